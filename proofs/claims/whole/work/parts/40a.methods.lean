/-- CountedActors$Capability.isOne(I)Z -/
def fd_15 (a0 : Int32) (M : am_M) : Option (Int32 × am_M) := if a0 < (0 : Int32) then (some ((0 : Int32), M)) else (if (6 : Int32) ≤ a0 then (some ((0 : Int32), M)) else (some ((1 : Int32), M)))
theorem te_15 {L : Nat} {xs : Nat → Int32} (a0 : Int32) (M : am_M) (q : Int32 × am_M) (h : fd_15 a0 M = some q) : am_ev (tb_P L xs) 15 0 [some (.int a0)] [] sh_A M (some (.int q.1), sh_A, q.2) := by
  unfold fd_15 at h
  refine am_ev_go (pc' := (am_br .lt a0 0 14 4)) (L' := [some (.int a0)]) (st' := []) (sh' := sh_A) (M' := M) 2 rfl ?_
  refine ev_lt (fun hc1 => ?_) (fun hc1 => ?_)
  · rw [if_pos hc1] at h
    refine am_ev_go (pc' := 15) (L' := [some (.int a0)]) (st' := [.int (0 : Int32)]) (sh' := sh_A) (M' := M) 1 rfl ?_
    cases h
    exact am_ev_ret rfl
  · rw [if_neg hc1] at h
    refine am_ev_go (pc' := (am_br .ge a0 (6 : Int32) 14 10)) (L' := [some (.int a0)]) (st' := []) (sh' := sh_A) (M' := M) 3 rfl ?_
    refine ev_ge (fun hc2 => ?_) (fun hc2 => ?_)
    · rw [if_pos hc2] at h
      refine am_ev_go (pc' := 15) (L' := [some (.int a0)]) (st' := [.int (0 : Int32)]) (sh' := sh_A) (M' := M) 1 rfl ?_
      cases h
      exact am_ev_ret rfl
    · rw [if_neg hc2] at h
      refine am_ev_go (pc' := 15) (L' := [some (.int a0)]) (st' := [.int (1 : Int32)]) (sh' := sh_A) (M' := M) 2 rfl ?_
      cases h
      exact am_ev_ret rfl
/-- CountedActors$Capability.isIn(II)Z -/
def fd_17 (a0 : Int32) (a1 : Int32) (M : am_M) : Option (Int32 × am_M) := if ((a1 >>> (a0 &&& 31)) &&& (1 : Int32)) = (0 : Int32) then (some ((0 : Int32), M)) else (some ((1 : Int32), M))
theorem te_17 {L : Nat} {xs : Nat → Int32} (a0 : Int32) (a1 : Int32) (M : am_M) (q : Int32 × am_M) (h : fd_17 a0 a1 M = some q) : am_ev (tb_P L xs) 17 0 [some (.int a0), some (.int a1)] [] sh_A M (some (.int q.1), sh_A, q.2) := by
  unfold fd_17 at h
  refine am_ev_go (pc' := (am_br .eq ((a1 >>> (a0 &&& 31)) &&& (1 : Int32)) 0 12 8)) (L' := [some (.int a0), some (.int a1)]) (st' := []) (sh' := sh_A) (M' := M) 6 rfl ?_
  refine ev_eq (fun hc1 => ?_) (fun hc1 => ?_)
  · rw [if_pos hc1] at h
    refine am_ev_go (pc' := 13) (L' := [some (.int a0), some (.int a1)]) (st' := [.int (0 : Int32)]) (sh' := sh_A) (M' := M) 1 rfl ?_
    cases h
    exact am_ev_ret rfl
  · rw [if_neg hc1] at h
    refine am_ev_go (pc' := 13) (L' := [some (.int a0), some (.int a1)]) (st' := [.int (1 : Int32)]) (sh' := sh_A) (M' := M) 2 rfl ?_
    cases h
    exact am_ev_ret rfl
/-- CountedActors$Capability.isSendable(I)Z -/
def fd_16 (a0 : Int32) (M : am_M) : Option (Int32 × am_M) := (fd_17 a0 (41 : Int32) M).bind fun q1 => if am_fit .boolean q1.1 = true then some (q1.1, q1.2) else none
theorem te_16 {L : Nat} {xs : Nat → Int32} (a0 : Int32) (M : am_M) (q : Int32 × am_M) (h : fd_16 a0 M = some q) : am_ev (tb_P L xs) 16 0 [some (.int a0)] [] sh_A M (some (.int q.1), sh_A, q.2) := by
  unfold fd_16 at h
  refine am_ev_go (pc' := 3) (L' := [some (.int a0)]) (st' := [.int (41 : Int32), .int a0]) (sh' := sh_A) (M' := M) 2 rfl ?_
  obtain ⟨q1, hq2, h⟩ := Option.bind_eq_some_iff.mp h
  refine am_ev_call (mj := 17) (as := [.int a0, .int (41 : Int32)]) (rest := []) (rv := some (.int q1.1)) (sh' := sh_A) (M' := q1.2) rfl (te_17 _ _ _ _ hq2) ?_
  show am_ev _ 16 6 [some (.int a0)] [.int q1.1] sh_A q1.2 _
  by_cases hg3 : am_fit .boolean q1.1 = true
  case neg => rw [if_neg hg3] at h; cases h
  rw [if_pos hg3] at h
  cases h
  exact ev_ret rfl rfl hg3
/-- CountedActors$Program.isParameter(I)Z -/
def fd_14 (a0 : Int32) (M : am_M) : Option (Int32 × am_M) := (fd_15 a0 M).bind fun q1 => if q1.1 = (0 : Int32) then (some ((0 : Int32), q1.2)) else ((fd_16 a0 q1.2).bind fun q4 => if q4.1 = (0 : Int32) then (some ((0 : Int32), q4.2)) else (some ((1 : Int32), q4.2)))
theorem te_14 {L : Nat} {xs : Nat → Int32} (a0 : Int32) (M : am_M) (q : Int32 × am_M) (h : fd_14 a0 M = some q) : am_ev (tb_P L xs) 14 0 [some (.int a0)] [] sh_A M (some (.int q.1), sh_A, q.2) := by
  unfold fd_14 at h
  refine am_ev_go (pc' := 1) (L' := [some (.int a0)]) (st' := [.int a0]) (sh' := sh_A) (M' := M) 1 rfl ?_
  obtain ⟨q1, hq2, h⟩ := Option.bind_eq_some_iff.mp h
  refine am_ev_call (mj := 15) (as := [.int a0]) (rest := []) (rv := some (.int q1.1)) (sh' := sh_A) (M' := q1.2) rfl (te_15 _ _ _ hq2) ?_
  show am_ev _ 14 4 [some (.int a0)] [.int q1.1] sh_A q1.2 _
  refine am_ev_go (pc' := (am_br .eq q1.1 0 18 7)) (L' := [some (.int a0)]) (st' := []) (sh' := sh_A) (M' := q1.2) 1 rfl ?_
  refine ev_eq (fun hc3 => ?_) (fun hc3 => ?_)
  · rw [if_pos hc3] at h
    refine am_ev_go (pc' := 19) (L' := [some (.int a0)]) (st' := [.int (0 : Int32)]) (sh' := sh_A) (M' := q1.2) 1 rfl ?_
    cases h
    exact am_ev_ret rfl
  · rw [if_neg hc3] at h
    refine am_ev_go (pc' := 8) (L' := [some (.int a0)]) (st' := [.int a0]) (sh' := sh_A) (M' := q1.2) 1 rfl ?_
    obtain ⟨q4, hq5, h⟩ := Option.bind_eq_some_iff.mp h
    refine am_ev_call (mj := 16) (as := [.int a0]) (rest := []) (rv := some (.int q4.1)) (sh' := sh_A) (M' := q4.2) rfl (te_16 _ _ _ hq5) ?_
    show am_ev _ 14 11 [some (.int a0)] [.int q4.1] sh_A q4.2 _
    refine am_ev_go (pc' := (am_br .eq q4.1 0 18 14)) (L' := [some (.int a0)]) (st' := []) (sh' := sh_A) (M' := q4.2) 1 rfl ?_
    refine ev_eq (fun hc6 => ?_) (fun hc6 => ?_)
    · rw [if_pos hc6] at h
      refine am_ev_go (pc' := 19) (L' := [some (.int a0)]) (st' := [.int (0 : Int32)]) (sh' := sh_A) (M' := q4.2) 1 rfl ?_
      cases h
      exact am_ev_ret rfl
    · rw [if_neg hc6] at h
      refine am_ev_go (pc' := 19) (L' := [some (.int a0)]) (st' := [.int (1 : Int32)]) (sh' := sh_A) (M' := q4.2) 2 rfl ?_
      cases h
      exact am_ev_ret rfl
/-- CountedActors$Behaviour.restart(I)V -/
def fd_18 (h0 : Nat) (a1 : Int32) (M : am_M) : Option (am_M) := some (ds_w (ds_w M h0 1 a1) h0 2 (0 : Int32))
theorem te_18 {L : Nat} {xs : Nat → Int32} (h0 : Nat) (a1 : Int32) (M : am_M) (q : am_M) (hy_h0 : sh_bh h0) (h : fd_18 h0 a1 M = some q) : am_ev (tb_P L xs) 18 0 [some (.ref h0), some (.int a1)] [] sh_A M (none, sh_A, q) := by
  unfold fd_18 at h
  refine am_ev_go (pc' := 2) (L' := [some (.ref h0), some (.int a1)]) (st' := [.int a1, .ref h0]) (sh' := sh_A) (M' := M) 2 rfl ?_
  refine ev_putI rfl rfl hy_h0.1 rfl rfl rfl ?_
  refine am_ev_go (pc' := 7) (L' := [some (.ref h0), some (.int a1)]) (st' := [.int (0 : Int32), .ref h0]) (sh' := sh_A) (M' := (ds_w M h0 1 a1)) 2 rfl ?_
  refine ev_putI rfl rfl hy_h0.1 rfl rfl rfl ?_
  cases h
  exact am_ev_ret rfl
def fd_20_7 (f : Nat) : Int32 → am_M → Option (am_M) := Nat.rec (motive := fun _ => Int32 → am_M → Option (am_M)) (fun _ _ => none) (fun _ k7 => fun x1 M => if (6 : Int32) ≤ x1 then (if (6 : Int32) < 0 ∨ 7 ≤ (6 : Int32).toNatClampNeg then none else some (ds_w M 5 (6 : Int32).toNatClampNeg ((0 : Int32) &&& 1))) else (if x1 < 0 ∨ 7 ≤ x1.toNatClampNeg then none else if x1 < 0 ∨ 6 ≤ x1.toNatClampNeg then none else k7 (x1 + (1 : Int32)) (ds_w (ds_w M 5 x1.toNatClampNeg ((0 : Int32) &&& 1)) 6 x1.toNatClampNeg ((0 : Int32) &&& 1)))) f
theorem te_20_7 {L : Nat} {xs : Nat → Int32} : ∀ (f : Nat) (x1 : Int32) (M : am_M) (q : am_M), fd_20_7 f x1 M = some q → am_ev (tb_P L xs) 20 7 [some (.ref 3), some (.int x1)] [] sh_A M (none, sh_A, q) := by
  intro f
  induction f with
  | zero => intro x1 M q h; cases h
  | succ f hk7 =>
    intro x1 M q h
    change (if (6 : Int32) ≤ x1 then (if (6 : Int32) < 0 ∨ 7 ≤ (6 : Int32).toNatClampNeg then none else some (ds_w M 5 (6 : Int32).toNatClampNeg ((0 : Int32) &&& 1))) else (if x1 < 0 ∨ 7 ≤ x1.toNatClampNeg then none else if x1 < 0 ∨ 6 ≤ x1.toNatClampNeg then none else (fd_20_7 f) (x1 + (1 : Int32)) (ds_w (ds_w M 5 x1.toNatClampNeg ((0 : Int32) &&& 1)) 6 x1.toNatClampNeg ((0 : Int32) &&& 1)))) = some q at h
    refine am_ev_go (pc' := (am_br .ge x1 (6 : Int32) 33 13)) (L' := [some (.ref 3), some (.int x1)]) (st' := []) (sh' := sh_A) (M' := M) 3 rfl ?_
    refine ev_ge (fun hc1 => ?_) (fun hc1 => ?_)
    · rw [if_pos hc1] at h
      refine am_ev_go (pc' := 40) (L' := [some (.ref 3), some (.int x1)]) (st' := [.int (0 : Int32), .int (6 : Int32), .ref 5]) (sh' := sh_A) (M' := M) 4 rfl ?_
      by_cases hg2 : (6 : Int32) < 0 ∨ 7 ≤ (6 : Int32).toNatClampNeg
      case pos => rw [if_pos hg2] at h; cases h
      rw [if_neg hg2] at h
      refine ev_bast rfl rfl hg2 ?_
      cases h
      exact am_ev_ret rfl
    · rw [if_neg hc1] at h
      refine am_ev_go (pc' := 19) (L' := [some (.ref 3), some (.int x1)]) (st' := [.int (0 : Int32), .int x1, .ref 5]) (sh' := sh_A) (M' := M) 4 rfl ?_
      by_cases hg3 : x1 < 0 ∨ 7 ≤ x1.toNatClampNeg
      case pos => rw [if_pos hg3] at h; cases h
      rw [if_neg hg3] at h
      refine ev_bast rfl rfl hg3 ?_
      refine am_ev_go (pc' := 26) (L' := [some (.ref 3), some (.int x1)]) (st' := [.int (0 : Int32), .int x1, .ref 6]) (sh' := sh_A) (M' := (ds_w M 5 x1.toNatClampNeg ((0 : Int32) &&& 1))) 4 rfl ?_
      by_cases hg4 : x1 < 0 ∨ 6 ≤ x1.toNatClampNeg
      case pos => rw [if_pos hg4] at h; cases h
      rw [if_neg hg4] at h
      refine ev_bast rfl rfl hg4 ?_
      refine am_ev_go (pc' := 7) (L' := [some (.ref 3), some (.int (x1 + (1 : Int32)))]) (st' := []) (sh' := sh_A) (M' := (ds_w (ds_w M 5 x1.toNatClampNeg ((0 : Int32) &&& 1)) 6 x1.toNatClampNeg ((0 : Int32) &&& 1))) 2 rfl ?_
      exact hk7 _ _ _ h
/-- CountedActors$Draft.leaveBlock()V -/
def fd_20 (M : am_M) : Option (am_M) := fd_20_7 1000 (0 : Int32) (ds_w M 3 3 (0 : Int32))
theorem te_20 {L : Nat} {xs : Nat → Int32} (M : am_M) (q : am_M) (h : fd_20  M = some q) : am_ev (tb_P L xs) 20 0 [some (.ref 3), none] [] sh_A M (none, sh_A, q) := by
  unfold fd_20 at h
  refine am_ev_go (pc' := 7) (L' := [some (.ref 3), some (.int (0 : Int32))]) (st' := []) (sh' := sh_A) (M' := (ds_w M 3 3 (0 : Int32))) 5 rfl ?_
  exact te_20_7 1000 _ _ _ h
def fd_19_2 (f : Nat) : Int32 → Int32 → am_M → Option (am_M) := Nat.rec (motive := fun _ => Int32 → Int32 → am_M → Option (am_M)) (fun _ _ _ => none) (fun _ k2 => fun x1 x2 M => if (6 : Int32) ≤ x2 then (if (0 : Int32) < 0 ∨ 7 ≤ (0 : Int32).toNatClampNeg then none else if (6 : Int32) < 0 ∨ 7 ≤ (6 : Int32).toNatClampNeg then none else (fd_20 (ds_w (ds_w M 4 (0 : Int32).toNatClampNeg x1) 4 (6 : Int32).toNatClampNeg (2 : Int32))).bind fun q4 => some q4) else (if x2 < 0 ∨ 7 ≤ x2.toNatClampNeg then none else k2 x1 (x2 + (1 : Int32)) (ds_w M 4 x2.toNatClampNeg (-1 : Int32)))) f
theorem te_19_2 {L : Nat} {xs : Nat → Int32} : ∀ (f : Nat) (x1 : Int32) (x2 : Int32) (M : am_M) (q : am_M), fd_19_2 f x1 x2 M = some q → am_ev (tb_P L xs) 19 2 [some (.ref 3), some (.int x1), some (.int x2)] [] sh_A M (none, sh_A, q) := by
  intro f
  induction f with
  | zero => intro x1 x2 M q h; cases h
  | succ f hk2 =>
    intro x1 x2 M q h
    change (if (6 : Int32) ≤ x2 then (if (0 : Int32) < 0 ∨ 7 ≤ (0 : Int32).toNatClampNeg then none else if (6 : Int32) < 0 ∨ 7 ≤ (6 : Int32).toNatClampNeg then none else (fd_20 (ds_w (ds_w M 4 (0 : Int32).toNatClampNeg x1) 4 (6 : Int32).toNatClampNeg (2 : Int32))).bind fun q4 => some q4) else (if x2 < 0 ∨ 7 ≤ x2.toNatClampNeg then none else (fd_19_2 f) x1 (x2 + (1 : Int32)) (ds_w M 4 x2.toNatClampNeg (-1 : Int32)))) = some q at h
    refine am_ev_go (pc' := (am_br .ge x2 (6 : Int32) 21 8)) (L' := [some (.ref 3), some (.int x1), some (.int x2)]) (st' := []) (sh' := sh_A) (M' := M) 3 rfl ?_
    refine ev_ge (fun hc1 => ?_) (fun hc1 => ?_)
    · rw [if_pos hc1] at h
      refine am_ev_go (pc' := 27) (L' := [some (.ref 3), some (.int x1), some (.int x2)]) (st' := [.int x1, .int (0 : Int32), .ref 4]) (sh' := sh_A) (M' := M) 4 rfl ?_
      by_cases hg2 : (0 : Int32) < 0 ∨ 7 ≤ (0 : Int32).toNatClampNeg
      case pos => rw [if_pos hg2] at h; cases h
      rw [if_neg hg2] at h
      refine ev_iast rfl rfl hg2 ?_
      refine am_ev_go (pc' := 35) (L' := [some (.ref 3), some (.int x1), some (.int x2)]) (st' := [.int (2 : Int32), .int (6 : Int32), .ref 4]) (sh' := sh_A) (M' := (ds_w M 4 (0 : Int32).toNatClampNeg x1)) 4 rfl ?_
      by_cases hg3 : (6 : Int32) < 0 ∨ 7 ≤ (6 : Int32).toNatClampNeg
      case pos => rw [if_pos hg3] at h; cases h
      rw [if_neg hg3] at h
      refine ev_iast rfl rfl hg3 ?_
      refine am_ev_go (pc' := 37) (L' := [some (.ref 3), some (.int x1), some (.int x2)]) (st' := [.ref 3]) (sh' := sh_A) (M' := (ds_w (ds_w M 4 (0 : Int32).toNatClampNeg x1) 4 (6 : Int32).toNatClampNeg (2 : Int32))) 1 rfl ?_
      obtain ⟨q4, hq5, h⟩ := Option.bind_eq_some_iff.mp h
      refine am_ev_call (mj := 20) (as := [.ref 3]) (rest := []) (rv := none) (sh' := sh_A) (M' := q4) rfl (te_20 _ _ hq5) ?_
      show am_ev _ 19 40 [some (.ref 3), some (.int x1), some (.int x2)] [] sh_A q4 _
      cases h
      exact am_ev_ret rfl
    · rw [if_neg hc1] at h
      refine am_ev_go (pc' := 14) (L' := [some (.ref 3), some (.int x1), some (.int x2)]) (st' := [.int (-1 : Int32), .int x2, .ref 4]) (sh' := sh_A) (M' := M) 4 rfl ?_
      by_cases hg6 : x2 < 0 ∨ 7 ≤ x2.toNatClampNeg
      case pos => rw [if_pos hg6] at h; cases h
      rw [if_neg hg6] at h
      refine ev_iast rfl rfl hg6 ?_
      refine am_ev_go (pc' := 2) (L' := [some (.ref 3), some (.int x1), some (.int (x2 + (1 : Int32)))]) (st' := []) (sh' := sh_A) (M' := (ds_w M 4 x2.toNatClampNeg (-1 : Int32))) 2 rfl ?_
      exact hk2 _ _ _ _ h
/-- CountedActors$Draft.restart(I)V -/
def fd_19 (a1 : Int32) (M : am_M) : Option (am_M) := fd_19_2 1000 a1 (0 : Int32) M
theorem te_19 {L : Nat} {xs : Nat → Int32} (a1 : Int32) (M : am_M) (q : am_M) (h : fd_19 a1 M = some q) : am_ev (tb_P L xs) 19 0 [some (.ref 3), some (.int a1), none] [] sh_A M (none, sh_A, q) := by
  unfold fd_19 at h
  refine am_ev_go (pc' := 2) (L' := [some (.ref 3), some (.int a1), some (.int (0 : Int32))]) (st' := []) (sh' := sh_A) (M' := M) 2 rfl ?_
  exact te_19_2 1000 _ _ _ _ h
/-- CountedActors$Program.open(I)I -/
def fd_13 (a1 : Int32) (M : am_M) : Option (Int32 × am_M) := if (M 1 3) = (0 : Int32) then (if (6 : Int32) ≤ (M 1 2) then (some ((-1 : Int32), M)) else ((fd_14 a1 M).bind fun q3 => if q3.1 = (0 : Int32) then (some ((-1 : Int32), q3.2)) else (if (q3.2 1 2) < 0 ∨ 6 ≤ (q3.2 1 2).toNatClampNeg then none else (fd_18 (7 + 12 * (q3.2 1 2).toNatClampNeg) a1 q3.2).bind fun q8 => (fd_19 a1 q8).bind fun q10 => some ((((ds_w (ds_w q10 1 3 (1 : Int32)) 1 2 (((ds_w q10 1 3 (1 : Int32)) 1 2) + (1 : Int32))) 1 2) - (1 : Int32)), (ds_w (ds_w q10 1 3 (1 : Int32)) 1 2 (((ds_w q10 1 3 (1 : Int32)) 1 2) + (1 : Int32))))))) else (some ((-1 : Int32), M))
theorem te_13 {L : Nat} {xs : Nat → Int32} (a1 : Int32) (M : am_M) (q : Int32 × am_M) (h : fd_13 a1 M = some q) : am_ev (tb_P L xs) 13 0 [some (.ref 1), some (.int a1)] [] sh_A M (some (.int q.1), sh_A, q.2) := by
  unfold fd_13 at h
  refine am_ev_go (pc' := (am_br .ne (M 1 3) 0 23 7)) (L' := [some (.ref 1), some (.int a1)]) (st' := []) (sh' := sh_A) (M' := M) 3 rfl ?_
  refine ev_ne (fun hc1 => ?_) (fun hc1 => ?_)
  · rw [if_neg hc1] at h
    refine am_ev_go (pc' := 24) (L' := [some (.ref 1), some (.int a1)]) (st' := [.int (-1 : Int32)]) (sh' := sh_A) (M' := M) 1 rfl ?_
    cases h
    exact am_ev_ret rfl
  · rw [if_pos hc1] at h
    refine am_ev_go (pc' := (am_br .ge (M 1 2) (6 : Int32) 23 16)) (L' := [some (.ref 1), some (.int a1)]) (st' := []) (sh' := sh_A) (M' := M) 4 rfl ?_
    refine ev_ge (fun hc2 => ?_) (fun hc2 => ?_)
    · rw [if_pos hc2] at h
      refine am_ev_go (pc' := 24) (L' := [some (.ref 1), some (.int a1)]) (st' := [.int (-1 : Int32)]) (sh' := sh_A) (M' := M) 1 rfl ?_
      cases h
      exact am_ev_ret rfl
    · rw [if_neg hc2] at h
      refine am_ev_go (pc' := 17) (L' := [some (.ref 1), some (.int a1)]) (st' := [.int a1]) (sh' := sh_A) (M' := M) 1 rfl ?_
      obtain ⟨q3, hq4, h⟩ := Option.bind_eq_some_iff.mp h
      refine am_ev_call (mj := 14) (as := [.int a1]) (rest := []) (rv := some (.int q3.1)) (sh' := sh_A) (M' := q3.2) rfl (te_14 _ _ _ hq4) ?_
      show am_ev _ 13 20 [some (.ref 1), some (.int a1)] [.int q3.1] sh_A q3.2 _
      refine am_ev_go (pc' := (am_br .ne q3.1 0 25 23)) (L' := [some (.ref 1), some (.int a1)]) (st' := []) (sh' := sh_A) (M' := q3.2) 1 rfl ?_
      refine ev_ne (fun hc5 => ?_) (fun hc5 => ?_)
      · rw [if_neg hc5] at h
        refine am_ev_go (pc' := 33) (L' := [some (.ref 1), some (.int a1)]) (st' := [.int (q3.2 1 2), .ref 2]) (sh' := sh_A) (M' := q3.2) 4 rfl ?_
        by_cases hg6 : (q3.2 1 2) < 0 ∨ 6 ≤ (q3.2 1 2).toNatClampNeg
        case pos => rw [if_pos hg6] at h; cases h
        rw [if_neg hg6] at h
        obtain ⟨hb7, hy__7___12____q3_2_1_2__toNatClampNeg_⟩ := sh_beh hg6
        refine ev_aald (ta := 4) (g := sh_gB) rfl rfl (by decide) hg6 hb7 ?_
        refine am_ev_go (pc' := 35) (L' := [some (.ref 1), some (.int a1)]) (st' := [.int a1, .ref (7 + 12 * (q3.2 1 2).toNatClampNeg)]) (sh' := sh_A) (M' := q3.2) 1 rfl ?_
        obtain ⟨q8, hq9, h⟩ := Option.bind_eq_some_iff.mp h
        refine am_ev_call (mj := 18) (as := [.ref (7 + 12 * (q3.2 1 2).toNatClampNeg), .int a1]) (rest := []) (rv := none) (sh' := sh_A) (M' := q8) (ev_calV (na := 1) rfl rfl rfl rfl rfl hy__7___12____q3_2_1_2__toNatClampNeg_.1 rfl rfl rfl) (te_18 _ _ _ _ hy__7___12____q3_2_1_2__toNatClampNeg_ hq9) ?_
        show am_ev _ 13 38 [some (.ref 1), some (.int a1)] [] sh_A q8 _
        refine am_ev_go (pc' := 43) (L' := [some (.ref 1), some (.int a1)]) (st' := [.int a1, .ref 3]) (sh' := sh_A) (M' := q8) 3 rfl ?_
        obtain ⟨q10, hq11, h⟩ := Option.bind_eq_some_iff.mp h
        refine am_ev_call (mj := 19) (as := [.ref 3, .int a1]) (rest := []) (rv := none) (sh' := sh_A) (M' := q10) rfl (te_19 _ _ _ hq11) ?_
        show am_ev _ 13 46 [some (.ref 1), some (.int a1)] [] sh_A q10 _
        refine am_ev_go (pc' := 67) (L' := [some (.ref 1), some (.int a1)]) (st' := [.int (((ds_w (ds_w q10 1 3 (1 : Int32)) 1 2 (((ds_w q10 1 3 (1 : Int32)) 1 2) + (1 : Int32))) 1 2) - (1 : Int32))]) (sh' := sh_A) (M' := (ds_w (ds_w q10 1 3 (1 : Int32)) 1 2 (((ds_w q10 1 3 (1 : Int32)) 1 2) + (1 : Int32)))) 13 rfl ?_
        cases h
        exact am_ev_ret rfl
      · rw [if_pos hc5] at h
        refine am_ev_go (pc' := 24) (L' := [some (.ref 1), some (.int a1)]) (st' := [.int (-1 : Int32)]) (sh' := sh_A) (M' := q3.2) 1 rfl ?_
        cases h
        exact am_ev_ret rfl
/-- CountedActors.begin(I)I -/
def fd_12 (a1 : Int32) (M : am_M) : Option (Int32 × am_M) := (fd_13 a1 M).bind fun q1 => some (q1.1, q1.2)
theorem te_12 {L : Nat} {xs : Nat → Int32} (a1 : Int32) (M : am_M) (q : Int32 × am_M) (h : fd_12 a1 M = some q) : am_ev (tb_P L xs) 12 0 [some (.ref 0), some (.int a1)] [] sh_A M (some (.int q.1), sh_A, q.2) := by
  unfold fd_12 at h
  refine am_ev_go (pc' := 5) (L' := [some (.ref 0), some (.int a1)]) (st' := [.int a1, .ref 1]) (sh' := sh_A) (M' := M) 3 rfl ?_
  obtain ⟨q1, hq2, h⟩ := Option.bind_eq_some_iff.mp h
  refine am_ev_call (mj := 13) (as := [.ref 1, .int a1]) (rest := []) (rv := some (.int q1.1)) (sh' := sh_A) (M' := q1.2) rfl (te_13 _ _ _ hq2) ?_
  show am_ev _ 12 8 [some (.ref 0), some (.int a1)] [.int q1.1] sh_A q1.2 _
  cases h
  exact am_ev_ret rfl
/-- CountedActors$Behaviour.isFull()Z -/
def fd_23 (h0 : Nat) (M : am_M) : Option (Int32 × am_M) := if (M h0 2) < (10 : Int32) then (some ((0 : Int32), M)) else (some ((1 : Int32), M))
theorem te_23 {L : Nat} {xs : Nat → Int32} (h0 : Nat) (M : am_M) (q : Int32 × am_M) (hy_h0 : sh_bh h0) (h : fd_23 h0 M = some q) : am_ev (tb_P L xs) 23 0 [some (.ref h0)] [] sh_A M (some (.int q.1), sh_A, q.2) := by
  unfold fd_23 at h
  refine am_ev_go (pc' := 1) (L' := [some (.ref h0)]) (st' := [.ref h0]) (sh' := sh_A) (M' := M) 1 rfl ?_
  refine ev_getI rfl rfl hy_h0.1 rfl ?_
  refine am_ev_go (pc' := (am_br .lt (M h0 2) (10 : Int32) 13 9)) (L' := [some (.ref h0)]) (st' := []) (sh' := sh_A) (M' := M) 2 rfl ?_
  refine ev_lt (fun hc1 => ?_) (fun hc1 => ?_)
  · rw [if_pos hc1] at h
    refine am_ev_go (pc' := 14) (L' := [some (.ref h0)]) (st' := [.int (0 : Int32)]) (sh' := sh_A) (M' := M) 1 rfl ?_
    cases h
    exact am_ev_ret rfl
  · rw [if_neg hc1] at h
    refine am_ev_go (pc' := 14) (L' := [some (.ref h0)]) (st' := [.int (1 : Int32)]) (sh' := sh_A) (M' := M) 2 rfl ?_
    cases h
    exact am_ev_ret rfl
/-- CountedActors$Behaviour.size()I -/
def fd_24 (h0 : Nat) (M : am_M) : Option (Int32 × am_M) := some ((M h0 2), M)
theorem te_24 {L : Nat} {xs : Nat → Int32} (h0 : Nat) (M : am_M) (q : Int32 × am_M) (hy_h0 : sh_bh h0) (h : fd_24 h0 M = some q) : am_ev (tb_P L xs) 24 0 [some (.ref h0)] [] sh_A M (some (.int q.1), sh_A, q.2) := by
  unfold fd_24 at h
  refine am_ev_go (pc' := 1) (L' := [some (.ref h0)]) (st' := [.ref h0]) (sh' := sh_A) (M' := M) 1 rfl ?_
  refine ev_getI rfl rfl hy_h0.1 rfl ?_
  cases h
  exact am_ev_ret rfl
/-- CountedActors$Behaviour.at(I)LCountedActors$Statement; -/
def fd_25 (h0 : Nat) (a1 : Int32) (M : am_M) : Option (Nat × am_M) := if a1 < 0 ∨ 10 ≤ a1.toNatClampNeg then none else some ((h0 + 2 + a1.toNatClampNeg), M)
theorem te_25 {L : Nat} {xs : Nat → Int32} (h0 : Nat) (a1 : Int32) (M : am_M) (q : Nat × am_M) (hy_h0 : sh_bh h0) (h : fd_25 h0 a1 M = some q) : am_ev (tb_P L xs) 25 0 [some (.ref h0), some (.int a1)] [] sh_A M (some (.ref q.1), sh_A, q.2) := by
  unfold fd_25 at h
  refine am_ev_go (pc' := 1) (L' := [some (.ref h0), some (.int a1)]) (st' := [.ref h0]) (sh' := sh_A) (M' := M) 1 rfl ?_
  refine ev_getR rfl rfl hy_h0.1 rfl ?_
  refine am_ev_go (pc' := 5) (L' := [some (.ref h0), some (.int a1)]) (st' := [.int a1, .ref (h0 + 1)]) (sh' := sh_A) (M' := M) 1 rfl ?_
  by_cases hg1 : a1 < 0 ∨ 10 ≤ a1.toNatClampNeg
  case pos => rw [if_pos hg1] at h; cases h
  rw [if_neg hg1] at h
  obtain ⟨hb2, hy__h0___2___a1_toNatClampNeg_⟩ := sh_stm hy_h0 hg1
  refine ev_aald rfl hy_h0.2.1 (by decide) hg1 hb2 ?_
  cases h
  exact am_ev_ret rfl
theorem tr_25 {h0 : Nat} {a1 : Int32} {M : am_M} {q : Nat × am_M} (hb : sh_bh h0) (h : fd_25 h0 a1 M = some q) : sh_st q.1 := by
  unfold fd_25 at h
  by_cases hg : a1 < 0 ∨ 10 ≤ a1.toNatClampNeg
  · rw [if_pos hg] at h; cases h
  · rw [if_neg hg] at h; cases h; exact (sh_stm hb hg).2
/-- CountedActors$Statement.set(IIIII)V -/
def fd_26 (h0 : Nat) (a1 : Int32) (a2 : Int32) (a3 : Int32) (a4 : Int32) (a5 : Int32) (M : am_M) : Option (am_M) := some (ds_w (ds_w (ds_w (ds_w (ds_w M h0 0 a1) h0 1 a2) h0 2 a3) h0 3 a4) h0 4 a5)
theorem te_26 {L : Nat} {xs : Nat → Int32} (h0 : Nat) (a1 : Int32) (a2 : Int32) (a3 : Int32) (a4 : Int32) (a5 : Int32) (M : am_M) (q : am_M) (hy_h0 : sh_st h0) (h : fd_26 h0 a1 a2 a3 a4 a5 M = some q) : am_ev (tb_P L xs) 26 0 [some (.ref h0), some (.int a1), some (.int a2), some (.int a3), some (.int a4), some (.int a5)] [] sh_A M (none, sh_A, q) := by
  unfold fd_26 at h
  refine am_ev_go (pc' := 2) (L' := [some (.ref h0), some (.int a1), some (.int a2), some (.int a3), some (.int a4), some (.int a5)]) (st' := [.int a1, .ref h0]) (sh' := sh_A) (M' := M) 2 rfl ?_
  refine ev_putI rfl rfl hy_h0 rfl rfl rfl ?_
  refine am_ev_go (pc' := 7) (L' := [some (.ref h0), some (.int a1), some (.int a2), some (.int a3), some (.int a4), some (.int a5)]) (st' := [.int a2, .ref h0]) (sh' := sh_A) (M' := (ds_w M h0 0 a1)) 2 rfl ?_
  refine ev_putI rfl rfl hy_h0 rfl rfl rfl ?_
  refine am_ev_go (pc' := 12) (L' := [some (.ref h0), some (.int a1), some (.int a2), some (.int a3), some (.int a4), some (.int a5)]) (st' := [.int a3, .ref h0]) (sh' := sh_A) (M' := (ds_w (ds_w M h0 0 a1) h0 1 a2)) 2 rfl ?_
  refine ev_putI rfl rfl hy_h0 rfl rfl rfl ?_
  refine am_ev_go (pc' := 18) (L' := [some (.ref h0), some (.int a1), some (.int a2), some (.int a3), some (.int a4), some (.int a5)]) (st' := [.int a4, .ref h0]) (sh' := sh_A) (M' := (ds_w (ds_w (ds_w M h0 0 a1) h0 1 a2) h0 2 a3)) 2 rfl ?_
  refine ev_putI rfl rfl hy_h0 rfl rfl rfl ?_
  refine am_ev_go (pc' := 24) (L' := [some (.ref h0), some (.int a1), some (.int a2), some (.int a3), some (.int a4), some (.int a5)]) (st' := [.int a5, .ref h0]) (sh' := sh_A) (M' := (ds_w (ds_w (ds_w (ds_w M h0 0 a1) h0 1 a2) h0 2 a3) h0 3 a4)) 2 rfl ?_
  refine ev_putI rfl rfl hy_h0 rfl rfl rfl ?_
  cases h
  exact am_ev_ret rfl
/-- CountedActors$Statement.isLocal(I)Z -/
def fd_29 (a0 : Int32) (M : am_M) : Option (Int32 × am_M) := if a0 < (0 : Int32) then (some ((0 : Int32), M)) else (if (6 : Int32) ≤ a0 then (some ((0 : Int32), M)) else (some ((1 : Int32), M)))
theorem te_29 {L : Nat} {xs : Nat → Int32} (a0 : Int32) (M : am_M) (q : Int32 × am_M) (h : fd_29 a0 M = some q) : am_ev (tb_P L xs) 29 0 [some (.int a0)] [] sh_A M (some (.int q.1), sh_A, q.2) := by
  unfold fd_29 at h
  refine am_ev_go (pc' := (am_br .lt a0 0 14 4)) (L' := [some (.int a0)]) (st' := []) (sh' := sh_A) (M' := M) 2 rfl ?_
  refine ev_lt (fun hc1 => ?_) (fun hc1 => ?_)
  · rw [if_pos hc1] at h
    refine am_ev_go (pc' := 15) (L' := [some (.int a0)]) (st' := [.int (0 : Int32)]) (sh' := sh_A) (M' := M) 1 rfl ?_
    cases h
    exact am_ev_ret rfl
  · rw [if_neg hc1] at h
    refine am_ev_go (pc' := (am_br .ge a0 (6 : Int32) 14 10)) (L' := [some (.int a0)]) (st' := []) (sh' := sh_A) (M' := M) 3 rfl ?_
    refine ev_ge (fun hc2 => ?_) (fun hc2 => ?_)
    · rw [if_pos hc2] at h
      refine am_ev_go (pc' := 15) (L' := [some (.int a0)]) (st' := [.int (0 : Int32)]) (sh' := sh_A) (M' := M) 1 rfl ?_
      cases h
      exact am_ev_ret rfl
    · rw [if_neg hc2] at h
      refine am_ev_go (pc' := 15) (L' := [some (.int a0)]) (st' := [.int (1 : Int32)]) (sh' := sh_A) (M' := M) 2 rfl ?_
      cases h
      exact am_ev_ret rfl
def fd_30_13 (M : am_M) : Option (Int32 × am_M) := some ((1 : Int32), M)
theorem te_30_13 {L : Nat} {xs : Nat → Int32} (M : am_M) (q : Int32 × am_M) (d0 : Option Value) (h : fd_30_13  M = some q) : am_ev (tb_P L xs) 30 13 [d0] [] sh_A M (some (.int q.1), sh_A, q.2) := by
  unfold fd_30_13 at h
  refine am_ev_go (pc' := 18) (L' := [d0]) (st' := [.int (1 : Int32)]) (sh' := sh_A) (M' := M) 2 rfl ?_
  cases h
  exact am_ev_ret rfl
/-- CountedActors$Statement.isLocalOrThis(I)Z -/
def fd_30 (a0 : Int32) (M : am_M) : Option (Int32 × am_M) := (fd_29 a0 M).bind fun q1 => if q1.1 = (0 : Int32) then (if a0 = (6 : Int32) then (fd_30_13 q1.2) else (some ((0 : Int32), q1.2))) else (fd_30_13 q1.2)
theorem te_30 {L : Nat} {xs : Nat → Int32} (a0 : Int32) (M : am_M) (q : Int32 × am_M) (h : fd_30 a0 M = some q) : am_ev (tb_P L xs) 30 0 [some (.int a0)] [] sh_A M (some (.int q.1), sh_A, q.2) := by
  unfold fd_30 at h
  refine am_ev_go (pc' := 1) (L' := [some (.int a0)]) (st' := [.int a0]) (sh' := sh_A) (M' := M) 1 rfl ?_
  obtain ⟨q1, hq2, h⟩ := Option.bind_eq_some_iff.mp h
  refine am_ev_call (mj := 29) (as := [.int a0]) (rest := []) (rv := some (.int q1.1)) (sh' := sh_A) (M' := q1.2) rfl (te_29 _ _ _ hq2) ?_
  show am_ev _ 30 4 [some (.int a0)] [.int q1.1] sh_A q1.2 _
  refine am_ev_go (pc' := (am_br .ne q1.1 0 13 7)) (L' := [some (.int a0)]) (st' := []) (sh' := sh_A) (M' := q1.2) 1 rfl ?_
  refine ev_ne (fun hc3 => ?_) (fun hc3 => ?_)
  · rw [if_neg hc3] at h
    exact te_30_13 _ _ _ h
  · rw [if_pos hc3] at h
    refine am_ev_go (pc' := (am_br .ne a0 (6 : Int32) 17 13)) (L' := [some (.int a0)]) (st' := []) (sh' := sh_A) (M' := q1.2) 3 rfl ?_
    refine ev_ne (fun hc4 => ?_) (fun hc4 => ?_)
    · rw [if_neg hc4] at h
      refine am_ev_go (pc' := 18) (L' := [some (.int a0)]) (st' := [.int (0 : Int32)]) (sh' := sh_A) (M' := q1.2) 1 rfl ?_
      cases h
      exact am_ev_ret rfl
    · rw [if_pos hc4] at h
      exact te_30_13 _ _ _ h
/-- CountedActors.isField(I)Z -/
def fd_31 (a0 : Int32) (M : am_M) : Option (Int32 × am_M) := if a0 < (0 : Int32) then (some ((0 : Int32), M)) else (if (6 : Int32) ≤ a0 then (some ((0 : Int32), M)) else (some ((1 : Int32), M)))
theorem te_31 {L : Nat} {xs : Nat → Int32} (a0 : Int32) (M : am_M) (q : Int32 × am_M) (h : fd_31 a0 M = some q) : am_ev (tb_P L xs) 31 0 [some (.int a0)] [] sh_A M (some (.int q.1), sh_A, q.2) := by
  unfold fd_31 at h
  refine am_ev_go (pc' := (am_br .lt a0 0 14 4)) (L' := [some (.int a0)]) (st' := []) (sh' := sh_A) (M' := M) 2 rfl ?_
  refine ev_lt (fun hc1 => ?_) (fun hc1 => ?_)
  · rw [if_pos hc1] at h
    refine am_ev_go (pc' := 15) (L' := [some (.int a0)]) (st' := [.int (0 : Int32)]) (sh' := sh_A) (M' := M) 1 rfl ?_
    cases h
    exact am_ev_ret rfl
  · rw [if_neg hc1] at h
    refine am_ev_go (pc' := (am_br .ge a0 (6 : Int32) 14 10)) (L' := [some (.int a0)]) (st' := []) (sh' := sh_A) (M' := M) 3 rfl ?_
    refine ev_ge (fun hc2 => ?_) (fun hc2 => ?_)
    · rw [if_pos hc2] at h
      refine am_ev_go (pc' := 15) (L' := [some (.int a0)]) (st' := [.int (0 : Int32)]) (sh' := sh_A) (M' := M) 1 rfl ?_
      cases h
      exact am_ev_ret rfl
    · rw [if_neg hc2] at h
      refine am_ev_go (pc' := 15) (L' := [some (.int a0)]) (st' := [.int (1 : Int32)]) (sh' := sh_A) (M' := M) 2 rfl ?_
      cases h
      exact am_ev_ret rfl
/-- CountedActors$Statement.namesOnlyWhatIs(I)Z -/
def fd_28 (h0 : Nat) (a1 : Int32) (M : am_M) : Option (Int32 × am_M) := if (M h0 0) = (0 : Int32) then ((fd_29 (M h0 1) M).bind fun q2 => if q2.1 = (0 : Int32) then (some ((0 : Int32), q2.2)) else ((fd_15 (q2.2 h0 3) q2.2).bind fun q5 => if q5.1 = (0 : Int32) then (some ((0 : Int32), q5.2)) else (some ((1 : Int32), q5.2)))) else if (M h0 0) = (1 : Int32) then ((fd_29 (M h0 1) M).bind fun q9 => if q9.1 = (0 : Int32) then (some ((0 : Int32), q9.2)) else ((fd_29 (q9.2 h0 2) q9.2).bind fun q12 => if q12.1 = (0 : Int32) then (some ((0 : Int32), q12.2)) else (some ((1 : Int32), q12.2)))) else if (M h0 0) = (2 : Int32) then ((fd_29 (M h0 1) M).bind fun q16 => if q16.1 = (0 : Int32) then (some ((0 : Int32), q16.2)) else ((fd_29 (q16.2 h0 2) q16.2).bind fun q19 => if q19.1 = (0 : Int32) then (some ((0 : Int32), q19.2)) else (some ((1 : Int32), q19.2)))) else if (M h0 0) = (3 : Int32) then ((fd_29 (M h0 1) M).bind fun q23 => if q23.1 = (0 : Int32) then (some ((0 : Int32), q23.2)) else ((fd_30 (q23.2 h0 2) q23.2).bind fun q26 => if q26.1 = (0 : Int32) then (some ((0 : Int32), q26.2)) else ((fd_31 (q26.2 h0 3) q26.2).bind fun q29 => if q29.1 = (0 : Int32) then (some ((0 : Int32), q29.2)) else (some ((1 : Int32), q29.2))))) else if (M h0 0) = (4 : Int32) then ((fd_30 (M h0 2) M).bind fun q33 => if q33.1 = (0 : Int32) then (some ((0 : Int32), q33.2)) else ((fd_31 (q33.2 h0 3) q33.2).bind fun q36 => if q36.1 = (0 : Int32) then (some ((0 : Int32), q36.2)) else ((fd_29 (q36.2 h0 4) q36.2).bind fun q39 => if q39.1 = (0 : Int32) then (some ((0 : Int32), q39.2)) else (some ((1 : Int32), q39.2))))) else if (M h0 0) = (5 : Int32) then ((fd_29 (M h0 1) M).bind fun q43 => if q43.1 = (0 : Int32) then (some ((0 : Int32), q43.2)) else ((fd_30 (q43.2 h0 2) q43.2).bind fun q46 => if q46.1 = (0 : Int32) then (some ((0 : Int32), q46.2)) else ((fd_31 (q46.2 h0 3) q46.2).bind fun q49 => if q49.1 = (0 : Int32) then (some ((0 : Int32), q49.2)) else ((fd_29 (q49.2 h0 4) q49.2).bind fun q52 => if q52.1 = (0 : Int32) then (some ((0 : Int32), q52.2)) else (some ((1 : Int32), q52.2)))))) else if (M h0 0) = (6 : Int32) then ((fd_29 (M h0 2) M).bind fun q56 => if am_fit .boolean q56.1 = true then some (q56.1, q56.2) else none) else if (M h0 0) = (7 : Int32) then ((fd_29 (M h0 2) M).bind fun q60 => if am_fit .boolean q60.1 = true then some (q60.1, q60.2) else none) else if (M h0 0) = (8 : Int32) then (if (M h0 1) < (0 : Int32) then (some ((0 : Int32), M)) else (if (4 : Int32) ≤ (M h0 1) then (some ((0 : Int32), M)) else (if (M h0 2) < (0 : Int32) then (some ((0 : Int32), M)) else (if a1 ≤ (M h0 2) then (some ((0 : Int32), M)) else ((fd_29 (M h0 4) M).bind fun q68 => if q68.1 = (0 : Int32) then (some ((0 : Int32), q68.2)) else (some ((1 : Int32), q68.2))))))) else if (M h0 0) = (9 : Int32) then (some ((1 : Int32), M)) else if (M h0 0) = (10 : Int32) then ((fd_29 (M h0 1) M).bind fun q73 => if q73.1 = (0 : Int32) then (some ((0 : Int32), q73.2)) else ((fd_29 (q73.2 h0 2) q73.2).bind fun q76 => if q76.1 = (0 : Int32) then (some ((0 : Int32), q76.2)) else (some ((1 : Int32), q76.2)))) else (some ((0 : Int32), M))
theorem te_28 {L : Nat} {xs : Nat → Int32} (h0 : Nat) (a1 : Int32) (M : am_M) (q : Int32 × am_M) (hy_h0 : sh_st h0) (h : fd_28 h0 a1 M = some q) : am_ev (tb_P L xs) 28 0 [some (.ref h0), some (.int a1)] [] sh_A M (some (.int q.1), sh_A, q.2) := by
  unfold fd_28 at h
  refine am_ev_go (pc' := 1) (L' := [some (.ref h0), some (.int a1)]) (st' := [.ref h0]) (sh' := sh_A) (M' := M) 1 rfl ?_
  refine ev_getI rfl rfl hy_h0 rfl ?_
  by_cases hc1 : (M h0 0) = (0 : Int32)
  · rw [if_pos hc1] at h
    refine ev_swi hc1 rfl (t := 64) rfl ?_
    refine am_ev_go (pc' := 65) (L' := [some (.ref h0), some (.int a1)]) (st' := [.ref h0]) (sh' := sh_A) (M' := M) 1 rfl ?_
    refine ev_getI rfl rfl hy_h0 rfl ?_
    obtain ⟨q2, hq3, h⟩ := Option.bind_eq_some_iff.mp h
    refine am_ev_call (mj := 29) (as := [.int (M h0 1)]) (rest := []) (rv := some (.int q2.1)) (sh' := sh_A) (M' := q2.2) rfl (te_29 _ _ _ hq3) ?_
    show am_ev _ 28 71 [some (.ref h0), some (.int a1)] [.int q2.1] sh_A q2.2 _
    refine am_ev_go (pc' := (am_br .eq q2.1 0 88 74)) (L' := [some (.ref h0), some (.int a1)]) (st' := []) (sh' := sh_A) (M' := q2.2) 1 rfl ?_
    refine ev_eq (fun hc4 => ?_) (fun hc4 => ?_)
    · rw [if_pos hc4] at h
      refine am_ev_go (pc' := 89) (L' := [some (.ref h0), some (.int a1)]) (st' := [.int (0 : Int32)]) (sh' := sh_A) (M' := q2.2) 1 rfl ?_
      cases h
      exact am_ev_ret rfl
    · rw [if_neg hc4] at h
      refine am_ev_go (pc' := 75) (L' := [some (.ref h0), some (.int a1)]) (st' := [.ref h0]) (sh' := sh_A) (M' := q2.2) 1 rfl ?_
      refine ev_getI rfl rfl hy_h0 rfl ?_
      obtain ⟨q5, hq6, h⟩ := Option.bind_eq_some_iff.mp h
      refine am_ev_call (mj := 15) (as := [.int (q2.2 h0 3)]) (rest := []) (rv := some (.int q5.1)) (sh' := sh_A) (M' := q5.2) rfl (te_15 _ _ _ hq6) ?_
      show am_ev _ 28 81 [some (.ref h0), some (.int a1)] [.int q5.1] sh_A q5.2 _
      refine am_ev_go (pc' := (am_br .eq q5.1 0 88 84)) (L' := [some (.ref h0), some (.int a1)]) (st' := []) (sh' := sh_A) (M' := q5.2) 1 rfl ?_
      refine ev_eq (fun hc7 => ?_) (fun hc7 => ?_)
      · rw [if_pos hc7] at h
        refine am_ev_go (pc' := 89) (L' := [some (.ref h0), some (.int a1)]) (st' := [.int (0 : Int32)]) (sh' := sh_A) (M' := q5.2) 1 rfl ?_
        cases h
        exact am_ev_ret rfl
      · rw [if_neg hc7] at h
        refine am_ev_go (pc' := 89) (L' := [some (.ref h0), some (.int a1)]) (st' := [.int (1 : Int32)]) (sh' := sh_A) (M' := q5.2) 2 rfl ?_
        cases h
        exact am_ev_ret rfl
  rw [if_neg hc1] at h
  by_cases hc8 : (M h0 0) = (1 : Int32)
  · rw [if_pos hc8] at h
    refine ev_swi hc8 rfl (t := 90) rfl ?_
    refine am_ev_go (pc' := 91) (L' := [some (.ref h0), some (.int a1)]) (st' := [.ref h0]) (sh' := sh_A) (M' := M) 1 rfl ?_
    refine ev_getI rfl rfl hy_h0 rfl ?_
    obtain ⟨q9, hq10, h⟩ := Option.bind_eq_some_iff.mp h
    refine am_ev_call (mj := 29) (as := [.int (M h0 1)]) (rest := []) (rv := some (.int q9.1)) (sh' := sh_A) (M' := q9.2) rfl (te_29 _ _ _ hq10) ?_
    show am_ev _ 28 97 [some (.ref h0), some (.int a1)] [.int q9.1] sh_A q9.2 _
    refine am_ev_go (pc' := (am_br .eq q9.1 0 114 100)) (L' := [some (.ref h0), some (.int a1)]) (st' := []) (sh' := sh_A) (M' := q9.2) 1 rfl ?_
    refine ev_eq (fun hc11 => ?_) (fun hc11 => ?_)
    · rw [if_pos hc11] at h
      refine am_ev_go (pc' := 115) (L' := [some (.ref h0), some (.int a1)]) (st' := [.int (0 : Int32)]) (sh' := sh_A) (M' := q9.2) 1 rfl ?_
      cases h
      exact am_ev_ret rfl
    · rw [if_neg hc11] at h
      refine am_ev_go (pc' := 101) (L' := [some (.ref h0), some (.int a1)]) (st' := [.ref h0]) (sh' := sh_A) (M' := q9.2) 1 rfl ?_
      refine ev_getI rfl rfl hy_h0 rfl ?_
      obtain ⟨q12, hq13, h⟩ := Option.bind_eq_some_iff.mp h
      refine am_ev_call (mj := 29) (as := [.int (q9.2 h0 2)]) (rest := []) (rv := some (.int q12.1)) (sh' := sh_A) (M' := q12.2) rfl (te_29 _ _ _ hq13) ?_
      show am_ev _ 28 107 [some (.ref h0), some (.int a1)] [.int q12.1] sh_A q12.2 _
      refine am_ev_go (pc' := (am_br .eq q12.1 0 114 110)) (L' := [some (.ref h0), some (.int a1)]) (st' := []) (sh' := sh_A) (M' := q12.2) 1 rfl ?_
      refine ev_eq (fun hc14 => ?_) (fun hc14 => ?_)
      · rw [if_pos hc14] at h
        refine am_ev_go (pc' := 115) (L' := [some (.ref h0), some (.int a1)]) (st' := [.int (0 : Int32)]) (sh' := sh_A) (M' := q12.2) 1 rfl ?_
        cases h
        exact am_ev_ret rfl
      · rw [if_neg hc14] at h
        refine am_ev_go (pc' := 115) (L' := [some (.ref h0), some (.int a1)]) (st' := [.int (1 : Int32)]) (sh' := sh_A) (M' := q12.2) 2 rfl ?_
        cases h
        exact am_ev_ret rfl
  rw [if_neg hc8] at h
  by_cases hc15 : (M h0 0) = (2 : Int32)
  · rw [if_pos hc15] at h
    refine ev_swi hc15 rfl (t := 90) rfl ?_
    refine am_ev_go (pc' := 91) (L' := [some (.ref h0), some (.int a1)]) (st' := [.ref h0]) (sh' := sh_A) (M' := M) 1 rfl ?_
    refine ev_getI rfl rfl hy_h0 rfl ?_
    obtain ⟨q16, hq17, h⟩ := Option.bind_eq_some_iff.mp h
    refine am_ev_call (mj := 29) (as := [.int (M h0 1)]) (rest := []) (rv := some (.int q16.1)) (sh' := sh_A) (M' := q16.2) rfl (te_29 _ _ _ hq17) ?_
    show am_ev _ 28 97 [some (.ref h0), some (.int a1)] [.int q16.1] sh_A q16.2 _
    refine am_ev_go (pc' := (am_br .eq q16.1 0 114 100)) (L' := [some (.ref h0), some (.int a1)]) (st' := []) (sh' := sh_A) (M' := q16.2) 1 rfl ?_
    refine ev_eq (fun hc18 => ?_) (fun hc18 => ?_)
    · rw [if_pos hc18] at h
      refine am_ev_go (pc' := 115) (L' := [some (.ref h0), some (.int a1)]) (st' := [.int (0 : Int32)]) (sh' := sh_A) (M' := q16.2) 1 rfl ?_
      cases h
      exact am_ev_ret rfl
    · rw [if_neg hc18] at h
      refine am_ev_go (pc' := 101) (L' := [some (.ref h0), some (.int a1)]) (st' := [.ref h0]) (sh' := sh_A) (M' := q16.2) 1 rfl ?_
      refine ev_getI rfl rfl hy_h0 rfl ?_
      obtain ⟨q19, hq20, h⟩ := Option.bind_eq_some_iff.mp h
      refine am_ev_call (mj := 29) (as := [.int (q16.2 h0 2)]) (rest := []) (rv := some (.int q19.1)) (sh' := sh_A) (M' := q19.2) rfl (te_29 _ _ _ hq20) ?_
      show am_ev _ 28 107 [some (.ref h0), some (.int a1)] [.int q19.1] sh_A q19.2 _
      refine am_ev_go (pc' := (am_br .eq q19.1 0 114 110)) (L' := [some (.ref h0), some (.int a1)]) (st' := []) (sh' := sh_A) (M' := q19.2) 1 rfl ?_
      refine ev_eq (fun hc21 => ?_) (fun hc21 => ?_)
      · rw [if_pos hc21] at h
        refine am_ev_go (pc' := 115) (L' := [some (.ref h0), some (.int a1)]) (st' := [.int (0 : Int32)]) (sh' := sh_A) (M' := q19.2) 1 rfl ?_
        cases h
        exact am_ev_ret rfl
      · rw [if_neg hc21] at h
        refine am_ev_go (pc' := 115) (L' := [some (.ref h0), some (.int a1)]) (st' := [.int (1 : Int32)]) (sh' := sh_A) (M' := q19.2) 2 rfl ?_
        cases h
        exact am_ev_ret rfl
  rw [if_neg hc15] at h
  by_cases hc22 : (M h0 0) = (3 : Int32)
  · rw [if_pos hc22] at h
    refine ev_swi hc22 rfl (t := 116) rfl ?_
    refine am_ev_go (pc' := 117) (L' := [some (.ref h0), some (.int a1)]) (st' := [.ref h0]) (sh' := sh_A) (M' := M) 1 rfl ?_
    refine ev_getI rfl rfl hy_h0 rfl ?_
    obtain ⟨q23, hq24, h⟩ := Option.bind_eq_some_iff.mp h
    refine am_ev_call (mj := 29) (as := [.int (M h0 1)]) (rest := []) (rv := some (.int q23.1)) (sh' := sh_A) (M' := q23.2) rfl (te_29 _ _ _ hq24) ?_
    show am_ev _ 28 123 [some (.ref h0), some (.int a1)] [.int q23.1] sh_A q23.2 _
    refine am_ev_go (pc' := (am_br .eq q23.1 0 150 126)) (L' := [some (.ref h0), some (.int a1)]) (st' := []) (sh' := sh_A) (M' := q23.2) 1 rfl ?_
    refine ev_eq (fun hc25 => ?_) (fun hc25 => ?_)
    · rw [if_pos hc25] at h
      refine am_ev_go (pc' := 151) (L' := [some (.ref h0), some (.int a1)]) (st' := [.int (0 : Int32)]) (sh' := sh_A) (M' := q23.2) 1 rfl ?_
      cases h
      exact am_ev_ret rfl
    · rw [if_neg hc25] at h
      refine am_ev_go (pc' := 127) (L' := [some (.ref h0), some (.int a1)]) (st' := [.ref h0]) (sh' := sh_A) (M' := q23.2) 1 rfl ?_
      refine ev_getI rfl rfl hy_h0 rfl ?_
      obtain ⟨q26, hq27, h⟩ := Option.bind_eq_some_iff.mp h
      refine am_ev_call (mj := 30) (as := [.int (q23.2 h0 2)]) (rest := []) (rv := some (.int q26.1)) (sh' := sh_A) (M' := q26.2) rfl (te_30 _ _ _ hq27) ?_
      show am_ev _ 28 133 [some (.ref h0), some (.int a1)] [.int q26.1] sh_A q26.2 _
      refine am_ev_go (pc' := (am_br .eq q26.1 0 150 136)) (L' := [some (.ref h0), some (.int a1)]) (st' := []) (sh' := sh_A) (M' := q26.2) 1 rfl ?_
      refine ev_eq (fun hc28 => ?_) (fun hc28 => ?_)
      · rw [if_pos hc28] at h
        refine am_ev_go (pc' := 151) (L' := [some (.ref h0), some (.int a1)]) (st' := [.int (0 : Int32)]) (sh' := sh_A) (M' := q26.2) 1 rfl ?_
        cases h
        exact am_ev_ret rfl
      · rw [if_neg hc28] at h
        refine am_ev_go (pc' := 137) (L' := [some (.ref h0), some (.int a1)]) (st' := [.ref h0]) (sh' := sh_A) (M' := q26.2) 1 rfl ?_
        refine ev_getI rfl rfl hy_h0 rfl ?_
        obtain ⟨q29, hq30, h⟩ := Option.bind_eq_some_iff.mp h
        refine am_ev_call (mj := 31) (as := [.int (q26.2 h0 3)]) (rest := []) (rv := some (.int q29.1)) (sh' := sh_A) (M' := q29.2) rfl (te_31 _ _ _ hq30) ?_
        show am_ev _ 28 143 [some (.ref h0), some (.int a1)] [.int q29.1] sh_A q29.2 _
        refine am_ev_go (pc' := (am_br .eq q29.1 0 150 146)) (L' := [some (.ref h0), some (.int a1)]) (st' := []) (sh' := sh_A) (M' := q29.2) 1 rfl ?_
        refine ev_eq (fun hc31 => ?_) (fun hc31 => ?_)
        · rw [if_pos hc31] at h
          refine am_ev_go (pc' := 151) (L' := [some (.ref h0), some (.int a1)]) (st' := [.int (0 : Int32)]) (sh' := sh_A) (M' := q29.2) 1 rfl ?_
          cases h
          exact am_ev_ret rfl
        · rw [if_neg hc31] at h
          refine am_ev_go (pc' := 151) (L' := [some (.ref h0), some (.int a1)]) (st' := [.int (1 : Int32)]) (sh' := sh_A) (M' := q29.2) 2 rfl ?_
          cases h
          exact am_ev_ret rfl
  rw [if_neg hc22] at h
  by_cases hc32 : (M h0 0) = (4 : Int32)
  · rw [if_pos hc32] at h
    refine ev_swi hc32 rfl (t := 152) rfl ?_
    refine am_ev_go (pc' := 153) (L' := [some (.ref h0), some (.int a1)]) (st' := [.ref h0]) (sh' := sh_A) (M' := M) 1 rfl ?_
    refine ev_getI rfl rfl hy_h0 rfl ?_
    obtain ⟨q33, hq34, h⟩ := Option.bind_eq_some_iff.mp h
    refine am_ev_call (mj := 30) (as := [.int (M h0 2)]) (rest := []) (rv := some (.int q33.1)) (sh' := sh_A) (M' := q33.2) rfl (te_30 _ _ _ hq34) ?_
    show am_ev _ 28 159 [some (.ref h0), some (.int a1)] [.int q33.1] sh_A q33.2 _
    refine am_ev_go (pc' := (am_br .eq q33.1 0 186 162)) (L' := [some (.ref h0), some (.int a1)]) (st' := []) (sh' := sh_A) (M' := q33.2) 1 rfl ?_
    refine ev_eq (fun hc35 => ?_) (fun hc35 => ?_)
    · rw [if_pos hc35] at h
      refine am_ev_go (pc' := 187) (L' := [some (.ref h0), some (.int a1)]) (st' := [.int (0 : Int32)]) (sh' := sh_A) (M' := q33.2) 1 rfl ?_
      cases h
      exact am_ev_ret rfl
    · rw [if_neg hc35] at h
      refine am_ev_go (pc' := 163) (L' := [some (.ref h0), some (.int a1)]) (st' := [.ref h0]) (sh' := sh_A) (M' := q33.2) 1 rfl ?_
      refine ev_getI rfl rfl hy_h0 rfl ?_
      obtain ⟨q36, hq37, h⟩ := Option.bind_eq_some_iff.mp h
      refine am_ev_call (mj := 31) (as := [.int (q33.2 h0 3)]) (rest := []) (rv := some (.int q36.1)) (sh' := sh_A) (M' := q36.2) rfl (te_31 _ _ _ hq37) ?_
      show am_ev _ 28 169 [some (.ref h0), some (.int a1)] [.int q36.1] sh_A q36.2 _
      refine am_ev_go (pc' := (am_br .eq q36.1 0 186 172)) (L' := [some (.ref h0), some (.int a1)]) (st' := []) (sh' := sh_A) (M' := q36.2) 1 rfl ?_
      refine ev_eq (fun hc38 => ?_) (fun hc38 => ?_)
      · rw [if_pos hc38] at h
        refine am_ev_go (pc' := 187) (L' := [some (.ref h0), some (.int a1)]) (st' := [.int (0 : Int32)]) (sh' := sh_A) (M' := q36.2) 1 rfl ?_
        cases h
        exact am_ev_ret rfl
      · rw [if_neg hc38] at h
        refine am_ev_go (pc' := 173) (L' := [some (.ref h0), some (.int a1)]) (st' := [.ref h0]) (sh' := sh_A) (M' := q36.2) 1 rfl ?_
        refine ev_getI rfl rfl hy_h0 rfl ?_
        obtain ⟨q39, hq40, h⟩ := Option.bind_eq_some_iff.mp h
        refine am_ev_call (mj := 29) (as := [.int (q36.2 h0 4)]) (rest := []) (rv := some (.int q39.1)) (sh' := sh_A) (M' := q39.2) rfl (te_29 _ _ _ hq40) ?_
        show am_ev _ 28 179 [some (.ref h0), some (.int a1)] [.int q39.1] sh_A q39.2 _
        refine am_ev_go (pc' := (am_br .eq q39.1 0 186 182)) (L' := [some (.ref h0), some (.int a1)]) (st' := []) (sh' := sh_A) (M' := q39.2) 1 rfl ?_
        refine ev_eq (fun hc41 => ?_) (fun hc41 => ?_)
        · rw [if_pos hc41] at h
          refine am_ev_go (pc' := 187) (L' := [some (.ref h0), some (.int a1)]) (st' := [.int (0 : Int32)]) (sh' := sh_A) (M' := q39.2) 1 rfl ?_
          cases h
          exact am_ev_ret rfl
        · rw [if_neg hc41] at h
          refine am_ev_go (pc' := 187) (L' := [some (.ref h0), some (.int a1)]) (st' := [.int (1 : Int32)]) (sh' := sh_A) (M' := q39.2) 2 rfl ?_
          cases h
          exact am_ev_ret rfl
  rw [if_neg hc32] at h
  by_cases hc42 : (M h0 0) = (5 : Int32)
  · rw [if_pos hc42] at h
    refine ev_swi hc42 rfl (t := 188) rfl ?_
    refine am_ev_go (pc' := 189) (L' := [some (.ref h0), some (.int a1)]) (st' := [.ref h0]) (sh' := sh_A) (M' := M) 1 rfl ?_
    refine ev_getI rfl rfl hy_h0 rfl ?_
    obtain ⟨q43, hq44, h⟩ := Option.bind_eq_some_iff.mp h
    refine am_ev_call (mj := 29) (as := [.int (M h0 1)]) (rest := []) (rv := some (.int q43.1)) (sh' := sh_A) (M' := q43.2) rfl (te_29 _ _ _ hq44) ?_
    show am_ev _ 28 195 [some (.ref h0), some (.int a1)] [.int q43.1] sh_A q43.2 _
    refine am_ev_go (pc' := (am_br .eq q43.1 0 232 198)) (L' := [some (.ref h0), some (.int a1)]) (st' := []) (sh' := sh_A) (M' := q43.2) 1 rfl ?_
    refine ev_eq (fun hc45 => ?_) (fun hc45 => ?_)
    · rw [if_pos hc45] at h
      refine am_ev_go (pc' := 233) (L' := [some (.ref h0), some (.int a1)]) (st' := [.int (0 : Int32)]) (sh' := sh_A) (M' := q43.2) 1 rfl ?_
      cases h
      exact am_ev_ret rfl
    · rw [if_neg hc45] at h
      refine am_ev_go (pc' := 199) (L' := [some (.ref h0), some (.int a1)]) (st' := [.ref h0]) (sh' := sh_A) (M' := q43.2) 1 rfl ?_
      refine ev_getI rfl rfl hy_h0 rfl ?_
      obtain ⟨q46, hq47, h⟩ := Option.bind_eq_some_iff.mp h
      refine am_ev_call (mj := 30) (as := [.int (q43.2 h0 2)]) (rest := []) (rv := some (.int q46.1)) (sh' := sh_A) (M' := q46.2) rfl (te_30 _ _ _ hq47) ?_
      show am_ev _ 28 205 [some (.ref h0), some (.int a1)] [.int q46.1] sh_A q46.2 _
      refine am_ev_go (pc' := (am_br .eq q46.1 0 232 208)) (L' := [some (.ref h0), some (.int a1)]) (st' := []) (sh' := sh_A) (M' := q46.2) 1 rfl ?_
      refine ev_eq (fun hc48 => ?_) (fun hc48 => ?_)
      · rw [if_pos hc48] at h
        refine am_ev_go (pc' := 233) (L' := [some (.ref h0), some (.int a1)]) (st' := [.int (0 : Int32)]) (sh' := sh_A) (M' := q46.2) 1 rfl ?_
        cases h
        exact am_ev_ret rfl
      · rw [if_neg hc48] at h
        refine am_ev_go (pc' := 209) (L' := [some (.ref h0), some (.int a1)]) (st' := [.ref h0]) (sh' := sh_A) (M' := q46.2) 1 rfl ?_
        refine ev_getI rfl rfl hy_h0 rfl ?_
        obtain ⟨q49, hq50, h⟩ := Option.bind_eq_some_iff.mp h
        refine am_ev_call (mj := 31) (as := [.int (q46.2 h0 3)]) (rest := []) (rv := some (.int q49.1)) (sh' := sh_A) (M' := q49.2) rfl (te_31 _ _ _ hq50) ?_
        show am_ev _ 28 215 [some (.ref h0), some (.int a1)] [.int q49.1] sh_A q49.2 _
        refine am_ev_go (pc' := (am_br .eq q49.1 0 232 218)) (L' := [some (.ref h0), some (.int a1)]) (st' := []) (sh' := sh_A) (M' := q49.2) 1 rfl ?_
        refine ev_eq (fun hc51 => ?_) (fun hc51 => ?_)
        · rw [if_pos hc51] at h
          refine am_ev_go (pc' := 233) (L' := [some (.ref h0), some (.int a1)]) (st' := [.int (0 : Int32)]) (sh' := sh_A) (M' := q49.2) 1 rfl ?_
          cases h
          exact am_ev_ret rfl
        · rw [if_neg hc51] at h
          refine am_ev_go (pc' := 219) (L' := [some (.ref h0), some (.int a1)]) (st' := [.ref h0]) (sh' := sh_A) (M' := q49.2) 1 rfl ?_
          refine ev_getI rfl rfl hy_h0 rfl ?_
          obtain ⟨q52, hq53, h⟩ := Option.bind_eq_some_iff.mp h
          refine am_ev_call (mj := 29) (as := [.int (q49.2 h0 4)]) (rest := []) (rv := some (.int q52.1)) (sh' := sh_A) (M' := q52.2) rfl (te_29 _ _ _ hq53) ?_
          show am_ev _ 28 225 [some (.ref h0), some (.int a1)] [.int q52.1] sh_A q52.2 _
          refine am_ev_go (pc' := (am_br .eq q52.1 0 232 228)) (L' := [some (.ref h0), some (.int a1)]) (st' := []) (sh' := sh_A) (M' := q52.2) 1 rfl ?_
          refine ev_eq (fun hc54 => ?_) (fun hc54 => ?_)
          · rw [if_pos hc54] at h
            refine am_ev_go (pc' := 233) (L' := [some (.ref h0), some (.int a1)]) (st' := [.int (0 : Int32)]) (sh' := sh_A) (M' := q52.2) 1 rfl ?_
            cases h
            exact am_ev_ret rfl
          · rw [if_neg hc54] at h
            refine am_ev_go (pc' := 233) (L' := [some (.ref h0), some (.int a1)]) (st' := [.int (1 : Int32)]) (sh' := sh_A) (M' := q52.2) 2 rfl ?_
            cases h
            exact am_ev_ret rfl
  rw [if_neg hc42] at h
  by_cases hc55 : (M h0 0) = (6 : Int32)
  · rw [if_pos hc55] at h
    refine ev_swi hc55 rfl (t := 234) rfl ?_
    refine am_ev_go (pc' := 235) (L' := [some (.ref h0), some (.int a1)]) (st' := [.ref h0]) (sh' := sh_A) (M' := M) 1 rfl ?_
    refine ev_getI rfl rfl hy_h0 rfl ?_
    obtain ⟨q56, hq57, h⟩ := Option.bind_eq_some_iff.mp h
    refine am_ev_call (mj := 29) (as := [.int (M h0 2)]) (rest := []) (rv := some (.int q56.1)) (sh' := sh_A) (M' := q56.2) rfl (te_29 _ _ _ hq57) ?_
    show am_ev _ 28 241 [some (.ref h0), some (.int a1)] [.int q56.1] sh_A q56.2 _
    by_cases hg58 : am_fit .boolean q56.1 = true
    case neg => rw [if_neg hg58] at h; cases h
    rw [if_pos hg58] at h
    cases h
    exact ev_ret rfl rfl hg58
  rw [if_neg hc55] at h
  by_cases hc59 : (M h0 0) = (7 : Int32)
  · rw [if_pos hc59] at h
    refine ev_swi hc59 rfl (t := 234) rfl ?_
    refine am_ev_go (pc' := 235) (L' := [some (.ref h0), some (.int a1)]) (st' := [.ref h0]) (sh' := sh_A) (M' := M) 1 rfl ?_
    refine ev_getI rfl rfl hy_h0 rfl ?_
    obtain ⟨q60, hq61, h⟩ := Option.bind_eq_some_iff.mp h
    refine am_ev_call (mj := 29) (as := [.int (M h0 2)]) (rest := []) (rv := some (.int q60.1)) (sh' := sh_A) (M' := q60.2) rfl (te_29 _ _ _ hq61) ?_
    show am_ev _ 28 241 [some (.ref h0), some (.int a1)] [.int q60.1] sh_A q60.2 _
    by_cases hg62 : am_fit .boolean q60.1 = true
    case neg => rw [if_neg hg62] at h; cases h
    rw [if_pos hg62] at h
    cases h
    exact ev_ret rfl rfl hg62
  rw [if_neg hc59] at h
  by_cases hc63 : (M h0 0) = (8 : Int32)
  · rw [if_pos hc63] at h
    refine ev_swi hc63 rfl (t := 242) rfl ?_
    refine am_ev_go (pc' := 243) (L' := [some (.ref h0), some (.int a1)]) (st' := [.ref h0]) (sh' := sh_A) (M' := M) 1 rfl ?_
    refine ev_getI rfl rfl hy_h0 rfl ?_
    refine am_ev_go (pc' := (am_br .lt (M h0 1) 0 286 249)) (L' := [some (.ref h0), some (.int a1)]) (st' := []) (sh' := sh_A) (M' := M) 1 rfl ?_
    refine ev_lt (fun hc64 => ?_) (fun hc64 => ?_)
    · rw [if_pos hc64] at h
      refine am_ev_go (pc' := 287) (L' := [some (.ref h0), some (.int a1)]) (st' := [.int (0 : Int32)]) (sh' := sh_A) (M' := M) 1 rfl ?_
      cases h
      exact am_ev_ret rfl
    · rw [if_neg hc64] at h
      refine am_ev_go (pc' := 250) (L' := [some (.ref h0), some (.int a1)]) (st' := [.ref h0]) (sh' := sh_A) (M' := M) 1 rfl ?_
      refine ev_getI rfl rfl hy_h0 rfl ?_
      refine am_ev_go (pc' := (am_br .ge (M h0 1) (4 : Int32) 286 257)) (L' := [some (.ref h0), some (.int a1)]) (st' := []) (sh' := sh_A) (M' := M) 2 rfl ?_
      refine ev_ge (fun hc65 => ?_) (fun hc65 => ?_)
      · rw [if_pos hc65] at h
        refine am_ev_go (pc' := 287) (L' := [some (.ref h0), some (.int a1)]) (st' := [.int (0 : Int32)]) (sh' := sh_A) (M' := M) 1 rfl ?_
        cases h
        exact am_ev_ret rfl
      · rw [if_neg hc65] at h
        refine am_ev_go (pc' := 258) (L' := [some (.ref h0), some (.int a1)]) (st' := [.ref h0]) (sh' := sh_A) (M' := M) 1 rfl ?_
        refine ev_getI rfl rfl hy_h0 rfl ?_
        refine am_ev_go (pc' := (am_br .lt (M h0 2) 0 286 264)) (L' := [some (.ref h0), some (.int a1)]) (st' := []) (sh' := sh_A) (M' := M) 1 rfl ?_
        refine ev_lt (fun hc66 => ?_) (fun hc66 => ?_)
        · rw [if_pos hc66] at h
          refine am_ev_go (pc' := 287) (L' := [some (.ref h0), some (.int a1)]) (st' := [.int (0 : Int32)]) (sh' := sh_A) (M' := M) 1 rfl ?_
          cases h
          exact am_ev_ret rfl
        · rw [if_neg hc66] at h
          refine am_ev_go (pc' := 265) (L' := [some (.ref h0), some (.int a1)]) (st' := [.ref h0]) (sh' := sh_A) (M' := M) 1 rfl ?_
          refine ev_getI rfl rfl hy_h0 rfl ?_
          refine am_ev_go (pc' := (am_br .ge (M h0 2) a1 286 272)) (L' := [some (.ref h0), some (.int a1)]) (st' := []) (sh' := sh_A) (M' := M) 2 rfl ?_
          refine ev_ge (fun hc67 => ?_) (fun hc67 => ?_)
          · rw [if_pos hc67] at h
            refine am_ev_go (pc' := 287) (L' := [some (.ref h0), some (.int a1)]) (st' := [.int (0 : Int32)]) (sh' := sh_A) (M' := M) 1 rfl ?_
            cases h
            exact am_ev_ret rfl
          · rw [if_neg hc67] at h
            refine am_ev_go (pc' := 273) (L' := [some (.ref h0), some (.int a1)]) (st' := [.ref h0]) (sh' := sh_A) (M' := M) 1 rfl ?_
            refine ev_getI rfl rfl hy_h0 rfl ?_
            obtain ⟨q68, hq69, h⟩ := Option.bind_eq_some_iff.mp h
            refine am_ev_call (mj := 29) (as := [.int (M h0 4)]) (rest := []) (rv := some (.int q68.1)) (sh' := sh_A) (M' := q68.2) rfl (te_29 _ _ _ hq69) ?_
            show am_ev _ 28 279 [some (.ref h0), some (.int a1)] [.int q68.1] sh_A q68.2 _
            refine am_ev_go (pc' := (am_br .eq q68.1 0 286 282)) (L' := [some (.ref h0), some (.int a1)]) (st' := []) (sh' := sh_A) (M' := q68.2) 1 rfl ?_
            refine ev_eq (fun hc70 => ?_) (fun hc70 => ?_)
            · rw [if_pos hc70] at h
              refine am_ev_go (pc' := 287) (L' := [some (.ref h0), some (.int a1)]) (st' := [.int (0 : Int32)]) (sh' := sh_A) (M' := q68.2) 1 rfl ?_
              cases h
              exact am_ev_ret rfl
            · rw [if_neg hc70] at h
              refine am_ev_go (pc' := 287) (L' := [some (.ref h0), some (.int a1)]) (st' := [.int (1 : Int32)]) (sh' := sh_A) (M' := q68.2) 2 rfl ?_
              cases h
              exact am_ev_ret rfl
  rw [if_neg hc63] at h
  by_cases hc71 : (M h0 0) = (9 : Int32)
  · rw [if_pos hc71] at h
    refine ev_swi hc71 rfl (t := 288) rfl ?_
    refine am_ev_go (pc' := 289) (L' := [some (.ref h0), some (.int a1)]) (st' := [.int (1 : Int32)]) (sh' := sh_A) (M' := M) 1 rfl ?_
    cases h
    exact am_ev_ret rfl
  rw [if_neg hc71] at h
  by_cases hc72 : (M h0 0) = (10 : Int32)
  · rw [if_pos hc72] at h
    refine ev_swi hc72 rfl (t := 90) rfl ?_
    refine am_ev_go (pc' := 91) (L' := [some (.ref h0), some (.int a1)]) (st' := [.ref h0]) (sh' := sh_A) (M' := M) 1 rfl ?_
    refine ev_getI rfl rfl hy_h0 rfl ?_
    obtain ⟨q73, hq74, h⟩ := Option.bind_eq_some_iff.mp h
    refine am_ev_call (mj := 29) (as := [.int (M h0 1)]) (rest := []) (rv := some (.int q73.1)) (sh' := sh_A) (M' := q73.2) rfl (te_29 _ _ _ hq74) ?_
    show am_ev _ 28 97 [some (.ref h0), some (.int a1)] [.int q73.1] sh_A q73.2 _
    refine am_ev_go (pc' := (am_br .eq q73.1 0 114 100)) (L' := [some (.ref h0), some (.int a1)]) (st' := []) (sh' := sh_A) (M' := q73.2) 1 rfl ?_
    refine ev_eq (fun hc75 => ?_) (fun hc75 => ?_)
    · rw [if_pos hc75] at h
      refine am_ev_go (pc' := 115) (L' := [some (.ref h0), some (.int a1)]) (st' := [.int (0 : Int32)]) (sh' := sh_A) (M' := q73.2) 1 rfl ?_
      cases h
      exact am_ev_ret rfl
    · rw [if_neg hc75] at h
      refine am_ev_go (pc' := 101) (L' := [some (.ref h0), some (.int a1)]) (st' := [.ref h0]) (sh' := sh_A) (M' := q73.2) 1 rfl ?_
      refine ev_getI rfl rfl hy_h0 rfl ?_
      obtain ⟨q76, hq77, h⟩ := Option.bind_eq_some_iff.mp h
      refine am_ev_call (mj := 29) (as := [.int (q73.2 h0 2)]) (rest := []) (rv := some (.int q76.1)) (sh' := sh_A) (M' := q76.2) rfl (te_29 _ _ _ hq77) ?_
      show am_ev _ 28 107 [some (.ref h0), some (.int a1)] [.int q76.1] sh_A q76.2 _
      refine am_ev_go (pc' := (am_br .eq q76.1 0 114 110)) (L' := [some (.ref h0), some (.int a1)]) (st' := []) (sh' := sh_A) (M' := q76.2) 1 rfl ?_
      refine ev_eq (fun hc78 => ?_) (fun hc78 => ?_)
      · rw [if_pos hc78] at h
        refine am_ev_go (pc' := 115) (L' := [some (.ref h0), some (.int a1)]) (st' := [.int (0 : Int32)]) (sh' := sh_A) (M' := q76.2) 1 rfl ?_
        cases h
        exact am_ev_ret rfl
      · rw [if_neg hc78] at h
        refine am_ev_go (pc' := 115) (L' := [some (.ref h0), some (.int a1)]) (st' := [.int (1 : Int32)]) (sh' := sh_A) (M' := q76.2) 2 rfl ?_
        cases h
        exact am_ev_ret rfl
  rw [if_neg hc72] at h
  refine ev_swo (sw_0_10 hc1 hc8 hc15 hc22 hc32 hc42 hc55 hc59 hc63 hc71 hc72) rfl (t := 290) rfl ?_
  refine am_ev_go (pc' := 291) (L' := [some (.ref h0), some (.int a1)]) (st' := [.int (0 : Int32)]) (sh' := sh_A) (M' := M) 1 rfl ?_
  cases h
  exact am_ev_ret rfl
def fd_33_26 (M : am_M) : Option (Int32 × am_M) := some ((1 : Int32), M)
theorem te_33_26 {L : Nat} {xs : Nat → Int32} (M : am_M) (q : Int32 × am_M) (d0 : Option Value) (h : fd_33_26  M = some q) : am_ev (tb_P L xs) 33 26 [d0] [] sh_A M (some (.int q.1), sh_A, q.2) := by
  unfold fd_33_26 at h
  refine am_ev_go (pc' := 31) (L' := [d0]) (st' := [.int (1 : Int32)]) (sh' := sh_A) (M' := M) 2 rfl ?_
  cases h
  exact am_ev_ret rfl
def fd_33_17 (h0 : Nat) (M : am_M) : Option (Int32 × am_M) := if (M h0 0) = (10 : Int32) then (fd_33_26 M) else (some ((0 : Int32), M))
theorem te_33_17 {L : Nat} {xs : Nat → Int32} (h0 : Nat) (M : am_M) (q : Int32 × am_M) (hy_h0 : sh_st h0) (h : fd_33_17 h0 M = some q) : am_ev (tb_P L xs) 33 17 [some (.ref h0)] [] sh_A M (some (.int q.1), sh_A, q.2) := by
  unfold fd_33_17 at h
  refine am_ev_go (pc' := 18) (L' := [some (.ref h0)]) (st' := [.ref h0]) (sh' := sh_A) (M' := M) 1 rfl ?_
  refine ev_getI rfl rfl hy_h0 rfl ?_
  refine am_ev_go (pc' := (am_br .ne (M h0 0) (10 : Int32) 30 26)) (L' := [some (.ref h0)]) (st' := []) (sh' := sh_A) (M' := M) 2 rfl ?_
  refine ev_ne (fun hc1 => ?_) (fun hc1 => ?_)
  · rw [if_neg hc1] at h
    refine am_ev_go (pc' := 31) (L' := [some (.ref h0)]) (st' := [.int (0 : Int32)]) (sh' := sh_A) (M' := M) 1 rfl ?_
    cases h
    exact am_ev_ret rfl
  · rw [if_pos hc1] at h
    exact te_33_26 _ _ _ h
/-- CountedActors$Statement.looksIntoY()Z -/
def fd_33 (h0 : Nat) (M : am_M) : Option (Int32 × am_M) := if (M h0 0) < (1 : Int32) then (fd_33_17 h0 M) else (if (M h0 0) ≤ (7 : Int32) then (fd_33_26 M) else (fd_33_17 h0 M))
theorem te_33 {L : Nat} {xs : Nat → Int32} (h0 : Nat) (M : am_M) (q : Int32 × am_M) (hy_h0 : sh_st h0) (h : fd_33 h0 M = some q) : am_ev (tb_P L xs) 33 0 [some (.ref h0)] [] sh_A M (some (.int q.1), sh_A, q.2) := by
  unfold fd_33 at h
  refine am_ev_go (pc' := 1) (L' := [some (.ref h0)]) (st' := [.ref h0]) (sh' := sh_A) (M' := M) 1 rfl ?_
  refine ev_getI rfl rfl hy_h0 rfl ?_
  refine am_ev_go (pc' := (am_br .lt (M h0 0) (1 : Int32) 17 8)) (L' := [some (.ref h0)]) (st' := []) (sh' := sh_A) (M' := M) 2 rfl ?_
  refine ev_lt (fun hc1 => ?_) (fun hc1 => ?_)
  · rw [if_pos hc1] at h
    exact te_33_17 _ _ _ hy_h0 h
  · rw [if_neg hc1] at h
    refine am_ev_go (pc' := 9) (L' := [some (.ref h0)]) (st' := [.ref h0]) (sh' := sh_A) (M' := M) 1 rfl ?_
    refine ev_getI rfl rfl hy_h0 rfl ?_
    refine am_ev_go (pc' := (am_br .le (M h0 0) (7 : Int32) 26 17)) (L' := [some (.ref h0)]) (st' := []) (sh' := sh_A) (M' := M) 2 rfl ?_
    refine ev_le (fun hc2 => ?_) (fun hc2 => ?_)
    · rw [if_pos hc2] at h
      exact te_33_26 _ _ _ h
    · rw [if_neg hc2] at h
      exact te_33_17 _ _ _ hy_h0 h
def fd_34_25 (M : am_M) : Option (Int32 × am_M) := some ((1 : Int32), M)
theorem te_34_25 {L : Nat} {xs : Nat → Int32} (M : am_M) (q : Int32 × am_M) (d0 : Option Value) (h : fd_34_25  M = some q) : am_ev (tb_P L xs) 34 25 [d0] [] sh_A M (some (.int q.1), sh_A, q.2) := by
  unfold fd_34_25 at h
  refine am_ev_go (pc' := 30) (L' := [d0]) (st' := [.int (1 : Int32)]) (sh' := sh_A) (M' := M) 2 rfl ?_
  cases h
  exact am_ev_ret rfl
/-- CountedActors$Statement.looksIntoZ()Z -/
def fd_34 (h0 : Nat) (M : am_M) : Option (Int32 × am_M) := if (M h0 0) = (4 : Int32) then (fd_34_25 M) else (if (M h0 0) = (5 : Int32) then (fd_34_25 M) else (if (M h0 0) = (8 : Int32) then (fd_34_25 M) else (some ((0 : Int32), M))))
theorem te_34 {L : Nat} {xs : Nat → Int32} (h0 : Nat) (M : am_M) (q : Int32 × am_M) (hy_h0 : sh_st h0) (h : fd_34 h0 M = some q) : am_ev (tb_P L xs) 34 0 [some (.ref h0)] [] sh_A M (some (.int q.1), sh_A, q.2) := by
  unfold fd_34 at h
  refine am_ev_go (pc' := 1) (L' := [some (.ref h0)]) (st' := [.ref h0]) (sh' := sh_A) (M' := M) 1 rfl ?_
  refine ev_getI rfl rfl hy_h0 rfl ?_
  refine am_ev_go (pc' := (am_br .eq (M h0 0) (4 : Int32) 25 8)) (L' := [some (.ref h0)]) (st' := []) (sh' := sh_A) (M' := M) 2 rfl ?_
  refine ev_eq (fun hc1 => ?_) (fun hc1 => ?_)
  · rw [if_pos hc1] at h
    exact te_34_25 _ _ _ h
  · rw [if_neg hc1] at h
    refine am_ev_go (pc' := 9) (L' := [some (.ref h0)]) (st' := [.ref h0]) (sh' := sh_A) (M' := M) 1 rfl ?_
    refine ev_getI rfl rfl hy_h0 rfl ?_
    refine am_ev_go (pc' := (am_br .eq (M h0 0) (5 : Int32) 25 16)) (L' := [some (.ref h0)]) (st' := []) (sh' := sh_A) (M' := M) 2 rfl ?_
    refine ev_eq (fun hc2 => ?_) (fun hc2 => ?_)
    · rw [if_pos hc2] at h
      exact te_34_25 _ _ _ h
    · rw [if_neg hc2] at h
      refine am_ev_go (pc' := 17) (L' := [some (.ref h0)]) (st' := [.ref h0]) (sh' := sh_A) (M' := M) 1 rfl ?_
      refine ev_getI rfl rfl hy_h0 rfl ?_
      refine am_ev_go (pc' := (am_br .ne (M h0 0) (8 : Int32) 29 25)) (L' := [some (.ref h0)]) (st' := []) (sh' := sh_A) (M' := M) 2 rfl ?_
      refine ev_ne (fun hc3 => ?_) (fun hc3 => ?_)
      · rw [if_neg hc3] at h
        refine am_ev_go (pc' := 30) (L' := [some (.ref h0)]) (st' := [.int (0 : Int32)]) (sh' := sh_A) (M' := M) 1 rfl ?_
        cases h
        exact am_ev_ret rfl
      · rw [if_pos hc3] at h
        exact te_34_25 _ _ _ h
/-- CountedActors$Draft.isEmpty(I)Z -/
def fd_35 (a1 : Int32) (M : am_M) : Option (Int32 × am_M) := if a1 < 0 ∨ 7 ≤ a1.toNatClampNeg then none else if (M 4 a1.toNatClampNeg) = (-1 : Int32) then (some ((1 : Int32), M)) else (some ((0 : Int32), M))
theorem te_35 {L : Nat} {xs : Nat → Int32} (a1 : Int32) (M : am_M) (q : Int32 × am_M) (h : fd_35 a1 M = some q) : am_ev (tb_P L xs) 35 0 [some (.ref 3), some (.int a1)] [] sh_A M (some (.int q.1), sh_A, q.2) := by
  unfold fd_35 at h
  refine am_ev_go (pc' := 5) (L' := [some (.ref 3), some (.int a1)]) (st' := [.int a1, .ref 4]) (sh' := sh_A) (M' := M) 3 rfl ?_
  by_cases hg1 : a1 < 0 ∨ 7 ≤ a1.toNatClampNeg
  case pos => rw [if_pos hg1] at h; cases h
  rw [if_neg hg1] at h
  refine ev_iald rfl rfl hg1 ?_
  refine am_ev_go (pc' := (am_br .ne (M 4 a1.toNatClampNeg) (-1 : Int32) 14 10)) (L' := [some (.ref 3), some (.int a1)]) (st' := []) (sh' := sh_A) (M' := M) 2 rfl ?_
  refine ev_ne (fun hc2 => ?_) (fun hc2 => ?_)
  · rw [if_neg hc2] at h
    refine am_ev_go (pc' := 15) (L' := [some (.ref 3), some (.int a1)]) (st' := [.int (0 : Int32)]) (sh' := sh_A) (M' := M) 1 rfl ?_
    cases h
    exact am_ev_ret rfl
  · rw [if_pos hc2] at h
    refine am_ev_go (pc' := 15) (L' := [some (.ref 3), some (.int a1)]) (st' := [.int (1 : Int32)]) (sh' := sh_A) (M' := M) 2 rfl ?_
    cases h
    exact am_ev_ret rfl
/-- CountedActors$Capability.isReadable(I)Z -/
def fd_36 (a0 : Int32) (M : am_M) : Option (Int32 × am_M) := (fd_17 a0 (31 : Int32) M).bind fun q1 => if am_fit .boolean q1.1 = true then some (q1.1, q1.2) else none
theorem te_36 {L : Nat} {xs : Nat → Int32} (a0 : Int32) (M : am_M) (q : Int32 × am_M) (h : fd_36 a0 M = some q) : am_ev (tb_P L xs) 36 0 [some (.int a0)] [] sh_A M (some (.int q.1), sh_A, q.2) := by
  unfold fd_36 at h
  refine am_ev_go (pc' := 3) (L' := [some (.int a0)]) (st' := [.int (31 : Int32), .int a0]) (sh' := sh_A) (M' := M) 2 rfl ?_
  obtain ⟨q1, hq2, h⟩ := Option.bind_eq_some_iff.mp h
  refine am_ev_call (mj := 17) (as := [.int a0, .int (31 : Int32)]) (rest := []) (rv := some (.int q1.1)) (sh' := sh_A) (M' := q1.2) rfl (te_17 _ _ _ _ hq2) ?_
  show am_ev _ 36 6 [some (.int a0)] [.int q1.1] sh_A q1.2 _
  by_cases hg3 : am_fit .boolean q1.1 = true
  case neg => rw [if_neg hg3] at h; cases h
  rw [if_pos hg3] at h
  cases h
  exact ev_ret rfl rfl hg3
/-- CountedActors$Capability.isWritable(I)Z -/
def fd_37 (a0 : Int32) (M : am_M) : Option (Int32 × am_M) := (fd_17 a0 (7 : Int32) M).bind fun q1 => if am_fit .boolean q1.1 = true then some (q1.1, q1.2) else none
theorem te_37 {L : Nat} {xs : Nat → Int32} (a0 : Int32) (M : am_M) (q : Int32 × am_M) (h : fd_37 a0 M = some q) : am_ev (tb_P L xs) 37 0 [some (.int a0)] [] sh_A M (some (.int q.1), sh_A, q.2) := by
  unfold fd_37 at h
  refine am_ev_go (pc' := 3) (L' := [some (.int a0)]) (st' := [.int (7 : Int32), .int a0]) (sh' := sh_A) (M' := M) 2 rfl ?_
  obtain ⟨q1, hq2, h⟩ := Option.bind_eq_some_iff.mp h
  refine am_ev_call (mj := 17) (as := [.int a0, .int (7 : Int32)]) (rest := []) (rv := some (.int q1.1)) (sh' := sh_A) (M' := q1.2) rfl (te_17 _ _ _ _ hq2) ?_
  show am_ev _ 37 6 [some (.int a0)] [.int q1.1] sh_A q1.2 _
  by_cases hg3 : am_fit .boolean q1.1 = true
  case neg => rw [if_neg hg3] at h; cases h
  rw [if_pos hg3] at h
  cases h
  exact ev_ret rfl rfl hg3
/-- CountedActors$Capability.alias(I)I -/
def fd_38 (a0 : Int32) (M : am_M) : Option (Int32 × am_M) := if a0 < 0 ∨ 6 ≤ a0.toNatClampNeg then none else some ((tb_a0.getD a0.toNatClampNeg 0), M)
theorem te_38 {L : Nat} {xs : Nat → Int32} (a0 : Int32) (M : am_M) (q : Int32 × am_M) (h : fd_38 a0 M = some q) : am_ev (tb_P L xs) 38 0 [some (.int a0)] [] sh_A M (some (.int q.1), sh_A, q.2) := by
  unfold fd_38 at h
  refine am_ev_go (pc' := 4) (L' := [some (.int a0)]) (st' := [.int a0, .ref 1048576]) (sh' := sh_A) (M' := M) 2 rfl ?_
  by_cases hg1 : a0 < 0 ∨ 6 ≤ a0.toNatClampNeg
  case pos => rw [if_pos hg1] at h; cases h
  rw [if_neg hg1] at h
  refine ev_sld rfl rfl rfl hg1 ?_
  cases h
  exact am_ev_ret rfl
/-- CountedActors$Capability.isSafe(II)Z -/
def fd_40 (a0 : Int32) (a1 : Int32) (M : am_M) : Option (Int32 × am_M) := if a1 < 0 ∨ 3 ≤ a1.toNatClampNeg then none else (fd_17 a0 (tb_a1.getD a1.toNatClampNeg 0) M).bind fun q2 => if am_fit .boolean q2.1 = true then some (q2.1, q2.2) else none
theorem te_40 {L : Nat} {xs : Nat → Int32} (a0 : Int32) (a1 : Int32) (M : am_M) (q : Int32 × am_M) (h : fd_40 a0 a1 M = some q) : am_ev (tb_P L xs) 40 0 [some (.int a0), some (.int a1)] [] sh_A M (some (.int q.1), sh_A, q.2) := by
  unfold fd_40 at h
  refine am_ev_go (pc' := 5) (L' := [some (.int a0), some (.int a1)]) (st' := [.int a1, .ref 1048577, .int a0]) (sh' := sh_A) (M' := M) 3 rfl ?_
  by_cases hg1 : a1 < 0 ∨ 3 ≤ a1.toNatClampNeg
  case pos => rw [if_pos hg1] at h; cases h
  rw [if_neg hg1] at h
  refine ev_sld rfl rfl rfl hg1 ?_
  obtain ⟨q2, hq3, h⟩ := Option.bind_eq_some_iff.mp h
  refine am_ev_call (mj := 17) (as := [.int a0, .int (tb_a1.getD a1.toNatClampNeg 0)]) (rest := []) (rv := some (.int q2.1)) (sh' := sh_A) (M' := q2.2) rfl (te_17 _ _ _ _ hq3) ?_
  show am_ev _ 40 9 [some (.int a0), some (.int a1)] [.int q2.1] sh_A q2.2 _
  by_cases hg4 : am_fit .boolean q2.1 = true
  case neg => rw [if_neg hg4] at h; cases h
  rw [if_pos hg4] at h
  cases h
  exact ev_ret rfl rfl hg4
/-- CountedActors$Capability.fits(II)Z -/
def fd_41 (a0 : Int32) (a1 : Int32) (M : am_M) : Option (Int32 × am_M) := if a0 < 0 ∨ 6 ≤ a0.toNatClampNeg then none else (fd_17 a1 (tb_a2.getD a0.toNatClampNeg 0) M).bind fun q2 => if am_fit .boolean q2.1 = true then some (q2.1, q2.2) else none
theorem te_41 {L : Nat} {xs : Nat → Int32} (a0 : Int32) (a1 : Int32) (M : am_M) (q : Int32 × am_M) (h : fd_41 a0 a1 M = some q) : am_ev (tb_P L xs) 41 0 [some (.int a0), some (.int a1)] [] sh_A M (some (.int q.1), sh_A, q.2) := by
  unfold fd_41 at h
  refine am_ev_go (pc' := 5) (L' := [some (.int a0), some (.int a1)]) (st' := [.int a0, .ref 1048578, .int a1]) (sh' := sh_A) (M' := M) 3 rfl ?_
  by_cases hg1 : a0 < 0 ∨ 6 ≤ a0.toNatClampNeg
  case pos => rw [if_pos hg1] at h; cases h
  rw [if_neg hg1] at h
  refine ev_sld rfl rfl rfl hg1 ?_
  obtain ⟨q2, hq3, h⟩ := Option.bind_eq_some_iff.mp h
  refine am_ev_call (mj := 17) (as := [.int a1, .int (tb_a2.getD a0.toNatClampNeg 0)]) (rest := []) (rv := some (.int q2.1)) (sh' := sh_A) (M' := q2.2) rfl (te_17 _ _ _ _ hq3) ?_
  show am_ev _ 41 9 [some (.int a0), some (.int a1)] [.int q2.1] sh_A q2.2 _
  by_cases hg4 : am_fit .boolean q2.1 = true
  case neg => rw [if_neg hg4] at h; cases h
  rw [if_pos hg4] at h
  cases h
  exact ev_ret rfl rfl hg4
/-- CountedActors$Draft.refusalOfStoring(LCountedActors$Statement;I)I -/
def fd_39 (h1 : Nat) (a2 : Int32) (M : am_M) : Option (Int32 × am_M) := if (M h1 2) < 0 ∨ 7 ≤ (M h1 2).toNatClampNeg then none else (fd_37 (M 4 (M h1 2).toNatClampNeg) M).bind fun q2 => if q2.1 = (0 : Int32) then (some ((7 : Int32), q2.2)) else ((fd_40 a2 (M 4 (M h1 2).toNatClampNeg) q2.2).bind fun q5 => if q5.1 = (0 : Int32) then (some ((8 : Int32), q5.2)) else ((fd_41 a2 (q5.2 h1 3) q5.2).bind fun q8 => if q8.1 = (0 : Int32) then (some ((9 : Int32), q8.2)) else (some ((0 : Int32), q8.2))))
theorem te_39 {L : Nat} {xs : Nat → Int32} (h1 : Nat) (a2 : Int32) (M : am_M) (q : Int32 × am_M) (hy_h1 : sh_st h1) (h : fd_39 h1 a2 M = some q) : am_ev (tb_P L xs) 39 0 [some (.ref 3), some (.ref h1), some (.int a2), none] [] sh_A M (some (.int q.1), sh_A, q.2) := by
  unfold fd_39 at h
  refine am_ev_go (pc' := 5) (L' := [some (.ref 3), some (.ref h1), some (.int a2), none]) (st' := [.ref h1, .ref 4]) (sh' := sh_A) (M' := M) 3 rfl ?_
  refine ev_getI rfl rfl hy_h1 rfl ?_
  by_cases hg1 : (M h1 2) < 0 ∨ 7 ≤ (M h1 2).toNatClampNeg
  case pos => rw [if_pos hg1] at h; cases h
  rw [if_neg hg1] at h
  refine ev_iald rfl rfl hg1 ?_
  refine am_ev_go (pc' := 11) (L' := [some (.ref 3), some (.ref h1), some (.int a2), some (.int (M 4 (M h1 2).toNatClampNeg))]) (st' := [.int (M 4 (M h1 2).toNatClampNeg)]) (sh' := sh_A) (M' := M) 2 rfl ?_
  obtain ⟨q2, hq3, h⟩ := Option.bind_eq_some_iff.mp h
  refine am_ev_call (mj := 37) (as := [.int (M 4 (M h1 2).toNatClampNeg)]) (rest := []) (rv := some (.int q2.1)) (sh' := sh_A) (M' := q2.2) rfl (te_37 _ _ _ hq3) ?_
  show am_ev _ 39 14 [some (.ref 3), some (.ref h1), some (.int a2), some (.int (M 4 (M h1 2).toNatClampNeg))] [.int q2.1] sh_A q2.2 _
  refine am_ev_go (pc' := (am_br .ne q2.1 0 20 17)) (L' := [some (.ref 3), some (.ref h1), some (.int a2), some (.int (M 4 (M h1 2).toNatClampNeg))]) (st' := []) (sh' := sh_A) (M' := q2.2) 1 rfl ?_
  refine ev_ne (fun hc4 => ?_) (fun hc4 => ?_)
  · rw [if_neg hc4] at h
    refine am_ev_go (pc' := 22) (L' := [some (.ref 3), some (.ref h1), some (.int a2), some (.int (M 4 (M h1 2).toNatClampNeg))]) (st' := [.int (M 4 (M h1 2).toNatClampNeg), .int a2]) (sh' := sh_A) (M' := q2.2) 2 rfl ?_
    obtain ⟨q5, hq6, h⟩ := Option.bind_eq_some_iff.mp h
    refine am_ev_call (mj := 40) (as := [.int a2, .int (M 4 (M h1 2).toNatClampNeg)]) (rest := []) (rv := some (.int q5.1)) (sh' := sh_A) (M' := q5.2) rfl (te_40 _ _ _ _ hq6) ?_
    show am_ev _ 39 25 [some (.ref 3), some (.ref h1), some (.int a2), some (.int (M 4 (M h1 2).toNatClampNeg))] [.int q5.1] sh_A q5.2 _
    refine am_ev_go (pc' := (am_br .ne q5.1 0 31 28)) (L' := [some (.ref 3), some (.ref h1), some (.int a2), some (.int (M 4 (M h1 2).toNatClampNeg))]) (st' := []) (sh' := sh_A) (M' := q5.2) 1 rfl ?_
    refine ev_ne (fun hc7 => ?_) (fun hc7 => ?_)
    · rw [if_neg hc7] at h
      refine am_ev_go (pc' := 33) (L' := [some (.ref 3), some (.ref h1), some (.int a2), some (.int (M 4 (M h1 2).toNatClampNeg))]) (st' := [.ref h1, .int a2]) (sh' := sh_A) (M' := q5.2) 2 rfl ?_
      refine ev_getI rfl rfl hy_h1 rfl ?_
      obtain ⟨q8, hq9, h⟩ := Option.bind_eq_some_iff.mp h
      refine am_ev_call (mj := 41) (as := [.int a2, .int (q5.2 h1 3)]) (rest := []) (rv := some (.int q8.1)) (sh' := sh_A) (M' := q8.2) rfl (te_41 _ _ _ _ hq9) ?_
      show am_ev _ 39 39 [some (.ref 3), some (.ref h1), some (.int a2), some (.int (M 4 (M h1 2).toNatClampNeg))] [.int q8.1] sh_A q8.2 _
      refine am_ev_go (pc' := (am_br .eq q8.1 0 46 42)) (L' := [some (.ref 3), some (.ref h1), some (.int a2), some (.int (M 4 (M h1 2).toNatClampNeg))]) (st' := []) (sh' := sh_A) (M' := q8.2) 1 rfl ?_
      refine ev_eq (fun hc10 => ?_) (fun hc10 => ?_)
      · rw [if_pos hc10] at h
        refine am_ev_go (pc' := 48) (L' := [some (.ref 3), some (.ref h1), some (.int a2), some (.int (M 4 (M h1 2).toNatClampNeg))]) (st' := [.int (9 : Int32)]) (sh' := sh_A) (M' := q8.2) 1 rfl ?_
        cases h
        exact am_ev_ret rfl
      · rw [if_neg hc10] at h
        refine am_ev_go (pc' := 48) (L' := [some (.ref 3), some (.ref h1), some (.int a2), some (.int (M 4 (M h1 2).toNatClampNeg))]) (st' := [.int (0 : Int32)]) (sh' := sh_A) (M' := q8.2) 2 rfl ?_
        cases h
        exact am_ev_ret rfl
    · rw [if_pos hc7] at h
      refine am_ev_go (pc' := 30) (L' := [some (.ref 3), some (.ref h1), some (.int a2), some (.int (M 4 (M h1 2).toNatClampNeg))]) (st' := [.int (8 : Int32)]) (sh' := sh_A) (M' := q5.2) 1 rfl ?_
      cases h
      exact am_ev_ret rfl
  · rw [if_pos hc4] at h
    refine am_ev_go (pc' := 19) (L' := [some (.ref 3), some (.ref h1), some (.int a2), some (.int (M 4 (M h1 2).toNatClampNeg))]) (st' := [.int (7 : Int32)]) (sh' := sh_A) (M' := q2.2) 1 rfl ?_
    cases h
    exact am_ev_ret rfl
def fd_32_135 (h1 : Nat) (M : am_M) : Option (Int32 × am_M) := if (M h1 0) = (3 : Int32) then (if (M h1 2) < 0 ∨ 7 ≤ (M h1 2).toNatClampNeg then none else (fd_36 (M 4 (M h1 2).toNatClampNeg) M).bind fun q3 => if q3.1 = (0 : Int32) then (some ((7 : Int32), q3.2)) else (some ((0 : Int32), q3.2))) else if (M h1 0) = (4 : Int32) then (if (M h1 4) < 0 ∨ 7 ≤ (M h1 4).toNatClampNeg then none else (fd_38 (M 4 (M h1 4).toNatClampNeg) M).bind fun q8 => (fd_39 h1 q8.1 q8.2).bind fun q10 => some (q10.1, q10.2)) else if (M h1 0) = (5 : Int32) then (if (M h1 4) < 0 ∨ 7 ≤ (M h1 4).toNatClampNeg then none else (fd_39 h1 (M 4 (M h1 4).toNatClampNeg) M).bind fun q14 => some (q14.1, q14.2)) else if (M h1 0) = (6 : Int32) then (if (M h1 2) < 0 ∨ 7 ≤ (M h1 2).toNatClampNeg then none else (fd_37 (M 4 (M h1 2).toNatClampNeg) M).bind fun q18 => if q18.1 = (0 : Int32) then (some ((7 : Int32), q18.2)) else (some ((0 : Int32), q18.2))) else if (M h1 0) = (7 : Int32) then (if (M h1 2) < 0 ∨ 7 ≤ (M h1 2).toNatClampNeg then none else (fd_36 (M 4 (M h1 2).toNatClampNeg) M).bind fun q23 => if q23.1 = (0 : Int32) then (some ((7 : Int32), q23.2)) else (some ((0 : Int32), q23.2))) else (some ((0 : Int32), M))
theorem te_32_135 {L : Nat} {xs : Nat → Int32} (h1 : Nat) (M : am_M) (q : Int32 × am_M) (hy_h1 : sh_st h1) (h : fd_32_135 h1 M = some q) : am_ev (tb_P L xs) 32 135 [some (.ref 3), some (.ref h1)] [] sh_A M (some (.int q.1), sh_A, q.2) := by
  unfold fd_32_135 at h
  refine am_ev_go (pc' := 136) (L' := [some (.ref 3), some (.ref h1)]) (st' := [.ref h1]) (sh' := sh_A) (M' := M) 1 rfl ?_
  refine ev_getI rfl rfl hy_h1 rfl ?_
  by_cases hc1 : (M h1 0) = (3 : Int32)
  · rw [if_pos hc1] at h
    refine ev_swi hc1 rfl (t := 172) rfl ?_
    refine am_ev_go (pc' := 177) (L' := [some (.ref 3), some (.ref h1)]) (st' := [.ref h1, .ref 4]) (sh' := sh_A) (M' := M) 3 rfl ?_
    refine ev_getI rfl rfl hy_h1 rfl ?_
    by_cases hg2 : (M h1 2) < 0 ∨ 7 ≤ (M h1 2).toNatClampNeg
    case pos => rw [if_pos hg2] at h; cases h
    rw [if_neg hg2] at h
    refine ev_iald rfl rfl hg2 ?_
    obtain ⟨q3, hq4, h⟩ := Option.bind_eq_some_iff.mp h
    refine am_ev_call (mj := 36) (as := [.int (M 4 (M h1 2).toNatClampNeg)]) (rest := []) (rv := some (.int q3.1)) (sh' := sh_A) (M' := q3.2) rfl (te_36 _ _ _ hq4) ?_
    show am_ev _ 32 184 [some (.ref 3), some (.ref h1)] [.int q3.1] sh_A q3.2 _
    refine am_ev_go (pc' := (am_br .eq q3.1 0 191 187)) (L' := [some (.ref 3), some (.ref h1)]) (st' := []) (sh' := sh_A) (M' := q3.2) 1 rfl ?_
    refine ev_eq (fun hc5 => ?_) (fun hc5 => ?_)
    · rw [if_pos hc5] at h
      refine am_ev_go (pc' := 193) (L' := [some (.ref 3), some (.ref h1)]) (st' := [.int (7 : Int32)]) (sh' := sh_A) (M' := q3.2) 1 rfl ?_
      cases h
      exact am_ev_ret rfl
    · rw [if_neg hc5] at h
      refine am_ev_go (pc' := 193) (L' := [some (.ref 3), some (.ref h1)]) (st' := [.int (0 : Int32)]) (sh' := sh_A) (M' := q3.2) 2 rfl ?_
      cases h
      exact am_ev_ret rfl
  rw [if_neg hc1] at h
  by_cases hc6 : (M h1 0) = (4 : Int32)
  · rw [if_pos hc6] at h
    refine ev_swi hc6 rfl (t := 216) rfl ?_
    refine am_ev_go (pc' := 223) (L' := [some (.ref 3), some (.ref h1)]) (st' := [.ref h1, .ref 4, .ref h1, .ref 3]) (sh' := sh_A) (M' := M) 5 rfl ?_
    refine ev_getI rfl rfl hy_h1 rfl ?_
    by_cases hg7 : (M h1 4) < 0 ∨ 7 ≤ (M h1 4).toNatClampNeg
    case pos => rw [if_pos hg7] at h; cases h
    rw [if_neg hg7] at h
    refine ev_iald rfl rfl hg7 ?_
    obtain ⟨q8, hq9, h⟩ := Option.bind_eq_some_iff.mp h
    refine am_ev_call (mj := 38) (as := [.int (M 4 (M h1 4).toNatClampNeg)]) (rest := [.ref h1, .ref 3]) (rv := some (.int q8.1)) (sh' := sh_A) (M' := q8.2) rfl (te_38 _ _ _ hq9) ?_
    show am_ev _ 32 230 [some (.ref 3), some (.ref h1)] [.int q8.1, .ref h1, .ref 3] sh_A q8.2 _
    obtain ⟨q10, hq11, h⟩ := Option.bind_eq_some_iff.mp h
    refine am_ev_call (mj := 39) (as := [.ref 3, .ref h1, .int q8.1]) (rest := []) (rv := some (.int q10.1)) (sh' := sh_A) (M' := q10.2) rfl (te_39 _ _ _ _ hy_h1 hq11) ?_
    show am_ev _ 32 233 [some (.ref 3), some (.ref h1)] [.int q10.1] sh_A q10.2 _
    cases h
    exact am_ev_ret rfl
  rw [if_neg hc6] at h
  by_cases hc12 : (M h1 0) = (5 : Int32)
  · rw [if_pos hc12] at h
    refine ev_swi hc12 rfl (t := 234) rfl ?_
    refine am_ev_go (pc' := 241) (L' := [some (.ref 3), some (.ref h1)]) (st' := [.ref h1, .ref 4, .ref h1, .ref 3]) (sh' := sh_A) (M' := M) 5 rfl ?_
    refine ev_getI rfl rfl hy_h1 rfl ?_
    by_cases hg13 : (M h1 4) < 0 ∨ 7 ≤ (M h1 4).toNatClampNeg
    case pos => rw [if_pos hg13] at h; cases h
    rw [if_neg hg13] at h
    refine ev_iald rfl rfl hg13 ?_
    obtain ⟨q14, hq15, h⟩ := Option.bind_eq_some_iff.mp h
    refine am_ev_call (mj := 39) (as := [.ref 3, .ref h1, .int (M 4 (M h1 4).toNatClampNeg)]) (rest := []) (rv := some (.int q14.1)) (sh' := sh_A) (M' := q14.2) rfl (te_39 _ _ _ _ hy_h1 hq15) ?_
    show am_ev _ 32 248 [some (.ref 3), some (.ref h1)] [.int q14.1] sh_A q14.2 _
    cases h
    exact am_ev_ret rfl
  rw [if_neg hc12] at h
  by_cases hc16 : (M h1 0) = (6 : Int32)
  · rw [if_pos hc16] at h
    refine ev_swi hc16 rfl (t := 194) rfl ?_
    refine am_ev_go (pc' := 199) (L' := [some (.ref 3), some (.ref h1)]) (st' := [.ref h1, .ref 4]) (sh' := sh_A) (M' := M) 3 rfl ?_
    refine ev_getI rfl rfl hy_h1 rfl ?_
    by_cases hg17 : (M h1 2) < 0 ∨ 7 ≤ (M h1 2).toNatClampNeg
    case pos => rw [if_pos hg17] at h; cases h
    rw [if_neg hg17] at h
    refine ev_iald rfl rfl hg17 ?_
    obtain ⟨q18, hq19, h⟩ := Option.bind_eq_some_iff.mp h
    refine am_ev_call (mj := 37) (as := [.int (M 4 (M h1 2).toNatClampNeg)]) (rest := []) (rv := some (.int q18.1)) (sh' := sh_A) (M' := q18.2) rfl (te_37 _ _ _ hq19) ?_
    show am_ev _ 32 206 [some (.ref 3), some (.ref h1)] [.int q18.1] sh_A q18.2 _
    refine am_ev_go (pc' := (am_br .eq q18.1 0 213 209)) (L' := [some (.ref 3), some (.ref h1)]) (st' := []) (sh' := sh_A) (M' := q18.2) 1 rfl ?_
    refine ev_eq (fun hc20 => ?_) (fun hc20 => ?_)
    · rw [if_pos hc20] at h
      refine am_ev_go (pc' := 215) (L' := [some (.ref 3), some (.ref h1)]) (st' := [.int (7 : Int32)]) (sh' := sh_A) (M' := q18.2) 1 rfl ?_
      cases h
      exact am_ev_ret rfl
    · rw [if_neg hc20] at h
      refine am_ev_go (pc' := 215) (L' := [some (.ref 3), some (.ref h1)]) (st' := [.int (0 : Int32)]) (sh' := sh_A) (M' := q18.2) 2 rfl ?_
      cases h
      exact am_ev_ret rfl
  rw [if_neg hc16] at h
  by_cases hc21 : (M h1 0) = (7 : Int32)
  · rw [if_pos hc21] at h
    refine ev_swi hc21 rfl (t := 172) rfl ?_
    refine am_ev_go (pc' := 177) (L' := [some (.ref 3), some (.ref h1)]) (st' := [.ref h1, .ref 4]) (sh' := sh_A) (M' := M) 3 rfl ?_
    refine ev_getI rfl rfl hy_h1 rfl ?_
    by_cases hg22 : (M h1 2) < 0 ∨ 7 ≤ (M h1 2).toNatClampNeg
    case pos => rw [if_pos hg22] at h; cases h
    rw [if_neg hg22] at h
    refine ev_iald rfl rfl hg22 ?_
    obtain ⟨q23, hq24, h⟩ := Option.bind_eq_some_iff.mp h
    refine am_ev_call (mj := 36) (as := [.int (M 4 (M h1 2).toNatClampNeg)]) (rest := []) (rv := some (.int q23.1)) (sh' := sh_A) (M' := q23.2) rfl (te_36 _ _ _ hq24) ?_
    show am_ev _ 32 184 [some (.ref 3), some (.ref h1)] [.int q23.1] sh_A q23.2 _
    refine am_ev_go (pc' := (am_br .eq q23.1 0 191 187)) (L' := [some (.ref 3), some (.ref h1)]) (st' := []) (sh' := sh_A) (M' := q23.2) 1 rfl ?_
    refine ev_eq (fun hc25 => ?_) (fun hc25 => ?_)
    · rw [if_pos hc25] at h
      refine am_ev_go (pc' := 193) (L' := [some (.ref 3), some (.ref h1)]) (st' := [.int (7 : Int32)]) (sh' := sh_A) (M' := q23.2) 1 rfl ?_
      cases h
      exact am_ev_ret rfl
    · rw [if_neg hc25] at h
      refine am_ev_go (pc' := 193) (L' := [some (.ref 3), some (.ref h1)]) (st' := [.int (0 : Int32)]) (sh' := sh_A) (M' := q23.2) 2 rfl ?_
      cases h
      exact am_ev_ret rfl
  rw [if_neg hc21] at h
  refine ev_swo (sw_3_7 hc1 hc6 hc12 hc16 hc21) rfl (t := 249) rfl ?_
  refine am_ev_go (pc' := 250) (L' := [some (.ref 3), some (.ref h1)]) (st' := [.int (0 : Int32)]) (sh' := sh_A) (M' := M) 1 rfl ?_
  cases h
  exact am_ev_ret rfl
def fd_32_113 (h1 : Nat) (M : am_M) : Option (Int32 × am_M) := if (M h1 0) = (5 : Int32) then (if (M h1 2) = (M h1 4) then (some ((6 : Int32), M)) else (fd_32_135 h1 M)) else (fd_32_135 h1 M)
theorem te_32_113 {L : Nat} {xs : Nat → Int32} (h1 : Nat) (M : am_M) (q : Int32 × am_M) (hy_h1 : sh_st h1) (h : fd_32_113 h1 M = some q) : am_ev (tb_P L xs) 32 113 [some (.ref 3), some (.ref h1)] [] sh_A M (some (.int q.1), sh_A, q.2) := by
  unfold fd_32_113 at h
  refine am_ev_go (pc' := 114) (L' := [some (.ref 3), some (.ref h1)]) (st' := [.ref h1]) (sh' := sh_A) (M' := M) 1 rfl ?_
  refine ev_getI rfl rfl hy_h1 rfl ?_
  refine am_ev_go (pc' := (am_br .ne (M h1 0) (5 : Int32) 135 121)) (L' := [some (.ref 3), some (.ref h1)]) (st' := []) (sh' := sh_A) (M' := M) 2 rfl ?_
  refine ev_ne (fun hc1 => ?_) (fun hc1 => ?_)
  · rw [if_neg hc1] at h
    exact te_32_135 _ _ _ hy_h1 h
  · rw [if_pos hc1] at h
    refine am_ev_go (pc' := 122) (L' := [some (.ref 3), some (.ref h1)]) (st' := [.ref h1]) (sh' := sh_A) (M' := M) 1 rfl ?_
    refine ev_getI rfl rfl hy_h1 rfl ?_
    refine am_ev_go (pc' := 126) (L' := [some (.ref 3), some (.ref h1)]) (st' := [.ref h1, .int (M h1 2)]) (sh' := sh_A) (M' := M) 1 rfl ?_
    refine ev_getI rfl rfl hy_h1 rfl ?_
    refine am_ev_go (pc' := (am_br .ne (M h1 2) (M h1 4) 135 132)) (L' := [some (.ref 3), some (.ref h1)]) (st' := []) (sh' := sh_A) (M' := M) 1 rfl ?_
    refine ev_ne (fun hc2 => ?_) (fun hc2 => ?_)
    · rw [if_neg hc2] at h
      exact te_32_135 _ _ _ hy_h1 h
    · rw [if_pos hc2] at h
      refine am_ev_go (pc' := 134) (L' := [some (.ref 3), some (.ref h1)]) (st' := [.int (6 : Int32)]) (sh' := sh_A) (M' := M) 1 rfl ?_
      cases h
      exact am_ev_ret rfl
def fd_32_92 (h1 : Nat) (M : am_M) : Option (Int32 × am_M) := (fd_34 h1 M).bind fun q1 => if q1.1 = (0 : Int32) then (fd_32_113 h1 q1.2) else ((fd_35 (q1.2 h1 4) q1.2).bind fun q4 => if q4.1 = (0 : Int32) then (fd_32_113 h1 q4.2) else (some ((6 : Int32), q4.2)))
theorem te_32_92 {L : Nat} {xs : Nat → Int32} (h1 : Nat) (M : am_M) (q : Int32 × am_M) (hy_h1 : sh_st h1) (h : fd_32_92 h1 M = some q) : am_ev (tb_P L xs) 32 92 [some (.ref 3), some (.ref h1)] [] sh_A M (some (.int q.1), sh_A, q.2) := by
  unfold fd_32_92 at h
  refine am_ev_go (pc' := 93) (L' := [some (.ref 3), some (.ref h1)]) (st' := [.ref h1]) (sh' := sh_A) (M' := M) 1 rfl ?_
  obtain ⟨q1, hq2, h⟩ := Option.bind_eq_some_iff.mp h
  refine am_ev_call (mj := 34) (as := [.ref h1]) (rest := []) (rv := some (.int q1.1)) (sh' := sh_A) (M' := q1.2) (ev_calV (na := 0) rfl rfl rfl rfl rfl hy_h1 rfl rfl rfl) (te_34 _ _ _ hy_h1 hq2) ?_
  show am_ev _ 32 96 [some (.ref 3), some (.ref h1)] [.int q1.1] sh_A q1.2 _
  refine am_ev_go (pc' := (am_br .eq q1.1 0 113 99)) (L' := [some (.ref 3), some (.ref h1)]) (st' := []) (sh' := sh_A) (M' := q1.2) 1 rfl ?_
  refine ev_eq (fun hc3 => ?_) (fun hc3 => ?_)
  · rw [if_pos hc3] at h
    exact te_32_113 _ _ _ hy_h1 h
  · rw [if_neg hc3] at h
    refine am_ev_go (pc' := 101) (L' := [some (.ref 3), some (.ref h1)]) (st' := [.ref h1, .ref 3]) (sh' := sh_A) (M' := q1.2) 2 rfl ?_
    refine ev_getI rfl rfl hy_h1 rfl ?_
    obtain ⟨q4, hq5, h⟩ := Option.bind_eq_some_iff.mp h
    refine am_ev_call (mj := 35) (as := [.ref 3, .int (q1.2 h1 4)]) (rest := []) (rv := some (.int q4.1)) (sh' := sh_A) (M' := q4.2) rfl (te_35 _ _ _ hq5) ?_
    show am_ev _ 32 107 [some (.ref 3), some (.ref h1)] [.int q4.1] sh_A q4.2 _
    refine am_ev_go (pc' := (am_br .eq q4.1 0 113 110)) (L' := [some (.ref 3), some (.ref h1)]) (st' := []) (sh' := sh_A) (M' := q4.2) 1 rfl ?_
    refine ev_eq (fun hc6 => ?_) (fun hc6 => ?_)
    · rw [if_pos hc6] at h
      exact te_32_113 _ _ _ hy_h1 h
    · rw [if_neg hc6] at h
      refine am_ev_go (pc' := 112) (L' := [some (.ref 3), some (.ref h1)]) (st' := [.int (6 : Int32)]) (sh' := sh_A) (M' := q4.2) 1 rfl ?_
      cases h
      exact am_ev_ret rfl
def fd_32_74 (h1 : Nat) (M : am_M) : Option (Int32 × am_M) := (fd_33 h1 M).bind fun q1 => if q1.1 = (0 : Int32) then (fd_32_92 h1 q1.2) else ((fd_35 (q1.2 h1 2) q1.2).bind fun q4 => if q4.1 = (0 : Int32) then (fd_32_92 h1 q4.2) else (some ((6 : Int32), q4.2)))
theorem te_32_74 {L : Nat} {xs : Nat → Int32} (h1 : Nat) (M : am_M) (q : Int32 × am_M) (hy_h1 : sh_st h1) (h : fd_32_74 h1 M = some q) : am_ev (tb_P L xs) 32 74 [some (.ref 3), some (.ref h1)] [] sh_A M (some (.int q.1), sh_A, q.2) := by
  unfold fd_32_74 at h
  refine am_ev_go (pc' := 75) (L' := [some (.ref 3), some (.ref h1)]) (st' := [.ref h1]) (sh' := sh_A) (M' := M) 1 rfl ?_
  obtain ⟨q1, hq2, h⟩ := Option.bind_eq_some_iff.mp h
  refine am_ev_call (mj := 33) (as := [.ref h1]) (rest := []) (rv := some (.int q1.1)) (sh' := sh_A) (M' := q1.2) (ev_calV (na := 0) rfl rfl rfl rfl rfl hy_h1 rfl rfl rfl) (te_33 _ _ _ hy_h1 hq2) ?_
  show am_ev _ 32 78 [some (.ref 3), some (.ref h1)] [.int q1.1] sh_A q1.2 _
  refine am_ev_go (pc' := (am_br .eq q1.1 0 92 81)) (L' := [some (.ref 3), some (.ref h1)]) (st' := []) (sh' := sh_A) (M' := q1.2) 1 rfl ?_
  refine ev_eq (fun hc3 => ?_) (fun hc3 => ?_)
  · rw [if_pos hc3] at h
    exact te_32_92 _ _ _ hy_h1 h
  · rw [if_neg hc3] at h
    refine am_ev_go (pc' := 83) (L' := [some (.ref 3), some (.ref h1)]) (st' := [.ref h1, .ref 3]) (sh' := sh_A) (M' := q1.2) 2 rfl ?_
    refine ev_getI rfl rfl hy_h1 rfl ?_
    obtain ⟨q4, hq5, h⟩ := Option.bind_eq_some_iff.mp h
    refine am_ev_call (mj := 35) (as := [.ref 3, .int (q1.2 h1 2)]) (rest := []) (rv := some (.int q4.1)) (sh' := sh_A) (M' := q4.2) rfl (te_35 _ _ _ hq5) ?_
    show am_ev _ 32 89 [some (.ref 3), some (.ref h1)] [.int q4.1] sh_A q4.2 _
    refine am_ev_go (pc' := (am_br .ne q4.1 0 110 92)) (L' := [some (.ref 3), some (.ref h1)]) (st' := []) (sh' := sh_A) (M' := q4.2) 1 rfl ?_
    refine ev_ne (fun hc6 => ?_) (fun hc6 => ?_)
    · rw [if_neg hc6] at h
      refine am_ev_go (pc' := 112) (L' := [some (.ref 3), some (.ref h1)]) (st' := [.int (6 : Int32)]) (sh' := sh_A) (M' := q4.2) 1 rfl ?_
      cases h
      exact am_ev_ret rfl
    · rw [if_pos hc6] at h
      exact te_32_92 _ _ _ hy_h1 h
def fd_32_53 (h1 : Nat) (M : am_M) : Option (Int32 × am_M) := (fd_34 h1 M).bind fun q1 => if q1.1 = (0 : Int32) then (fd_32_74 h1 q1.2) else (if (q1.2 h1 4) < 0 ∨ 7 ≤ (q1.2 h1 4).toNatClampNeg then none else if (q1.2 5 (q1.2 h1 4).toNatClampNeg) = (0 : Int32) then (fd_32_74 h1 q1.2) else (some ((5 : Int32), q1.2)))
theorem te_32_53 {L : Nat} {xs : Nat → Int32} (h1 : Nat) (M : am_M) (q : Int32 × am_M) (hy_h1 : sh_st h1) (h : fd_32_53 h1 M = some q) : am_ev (tb_P L xs) 32 53 [some (.ref 3), some (.ref h1)] [] sh_A M (some (.int q.1), sh_A, q.2) := by
  unfold fd_32_53 at h
  refine am_ev_go (pc' := 54) (L' := [some (.ref 3), some (.ref h1)]) (st' := [.ref h1]) (sh' := sh_A) (M' := M) 1 rfl ?_
  obtain ⟨q1, hq2, h⟩ := Option.bind_eq_some_iff.mp h
  refine am_ev_call (mj := 34) (as := [.ref h1]) (rest := []) (rv := some (.int q1.1)) (sh' := sh_A) (M' := q1.2) (ev_calV (na := 0) rfl rfl rfl rfl rfl hy_h1 rfl rfl rfl) (te_34 _ _ _ hy_h1 hq2) ?_
  show am_ev _ 32 57 [some (.ref 3), some (.ref h1)] [.int q1.1] sh_A q1.2 _
  refine am_ev_go (pc' := (am_br .eq q1.1 0 74 60)) (L' := [some (.ref 3), some (.ref h1)]) (st' := []) (sh' := sh_A) (M' := q1.2) 1 rfl ?_
  refine ev_eq (fun hc3 => ?_) (fun hc3 => ?_)
  · rw [if_pos hc3] at h
    exact te_32_74 _ _ _ hy_h1 h
  · rw [if_neg hc3] at h
    refine am_ev_go (pc' := 65) (L' := [some (.ref 3), some (.ref h1)]) (st' := [.ref h1, .ref 5]) (sh' := sh_A) (M' := q1.2) 3 rfl ?_
    refine ev_getI rfl rfl hy_h1 rfl ?_
    by_cases hg4 : (q1.2 h1 4) < 0 ∨ 7 ≤ (q1.2 h1 4).toNatClampNeg
    case pos => rw [if_pos hg4] at h; cases h
    rw [if_neg hg4] at h
    refine ev_bald rfl rfl hg4 ?_
    refine am_ev_go (pc' := (am_br .eq (q1.2 5 (q1.2 h1 4).toNatClampNeg) 0 74 72)) (L' := [some (.ref 3), some (.ref h1)]) (st' := []) (sh' := sh_A) (M' := q1.2) 1 rfl ?_
    refine ev_eq (fun hc5 => ?_) (fun hc5 => ?_)
    · rw [if_pos hc5] at h
      exact te_32_74 _ _ _ hy_h1 h
    · rw [if_neg hc5] at h
      refine am_ev_go (pc' := 73) (L' := [some (.ref 3), some (.ref h1)]) (st' := [.int (5 : Int32)]) (sh' := sh_A) (M' := q1.2) 1 rfl ?_
      cases h
      exact am_ev_ret rfl
def fd_32_34 (h1 : Nat) (M : am_M) : Option (Int32 × am_M) := (fd_33 h1 M).bind fun q1 => if q1.1 = (0 : Int32) then (fd_32_53 h1 q1.2) else (if (q1.2 h1 2) < 0 ∨ 7 ≤ (q1.2 h1 2).toNatClampNeg then none else if (q1.2 5 (q1.2 h1 2).toNatClampNeg) = (0 : Int32) then (fd_32_53 h1 q1.2) else (some ((5 : Int32), q1.2)))
theorem te_32_34 {L : Nat} {xs : Nat → Int32} (h1 : Nat) (M : am_M) (q : Int32 × am_M) (hy_h1 : sh_st h1) (h : fd_32_34 h1 M = some q) : am_ev (tb_P L xs) 32 34 [some (.ref 3), some (.ref h1)] [] sh_A M (some (.int q.1), sh_A, q.2) := by
  unfold fd_32_34 at h
  refine am_ev_go (pc' := 35) (L' := [some (.ref 3), some (.ref h1)]) (st' := [.ref h1]) (sh' := sh_A) (M' := M) 1 rfl ?_
  obtain ⟨q1, hq2, h⟩ := Option.bind_eq_some_iff.mp h
  refine am_ev_call (mj := 33) (as := [.ref h1]) (rest := []) (rv := some (.int q1.1)) (sh' := sh_A) (M' := q1.2) (ev_calV (na := 0) rfl rfl rfl rfl rfl hy_h1 rfl rfl rfl) (te_33 _ _ _ hy_h1 hq2) ?_
  show am_ev _ 32 38 [some (.ref 3), some (.ref h1)] [.int q1.1] sh_A q1.2 _
  refine am_ev_go (pc' := (am_br .eq q1.1 0 53 41)) (L' := [some (.ref 3), some (.ref h1)]) (st' := []) (sh' := sh_A) (M' := q1.2) 1 rfl ?_
  refine ev_eq (fun hc3 => ?_) (fun hc3 => ?_)
  · rw [if_pos hc3] at h
    exact te_32_53 _ _ _ hy_h1 h
  · rw [if_neg hc3] at h
    refine am_ev_go (pc' := 46) (L' := [some (.ref 3), some (.ref h1)]) (st' := [.ref h1, .ref 5]) (sh' := sh_A) (M' := q1.2) 3 rfl ?_
    refine ev_getI rfl rfl hy_h1 rfl ?_
    by_cases hg4 : (q1.2 h1 2) < 0 ∨ 7 ≤ (q1.2 h1 2).toNatClampNeg
    case pos => rw [if_pos hg4] at h; cases h
    rw [if_neg hg4] at h
    refine ev_bald rfl rfl hg4 ?_
    refine am_ev_go (pc' := (am_br .ne (q1.2 5 (q1.2 h1 2).toNatClampNeg) 0 72 53)) (L' := [some (.ref 3), some (.ref h1)]) (st' := []) (sh' := sh_A) (M' := q1.2) 1 rfl ?_
    refine ev_ne (fun hc5 => ?_) (fun hc5 => ?_)
    · rw [if_neg hc5] at h
      refine am_ev_go (pc' := 73) (L' := [some (.ref 3), some (.ref h1)]) (st' := [.int (5 : Int32)]) (sh' := sh_A) (M' := q1.2) 1 rfl ?_
      cases h
      exact am_ev_ret rfl
    · rw [if_pos hc5] at h
      exact te_32_53 _ _ _ hy_h1 h
def fd_32_16 (h1 : Nat) (M : am_M) : Option (Int32 × am_M) := if (M h1 0) = (10 : Int32) then (if (M 3 3) = (0 : Int32) then (some ((4 : Int32), M)) else (fd_32_34 h1 M)) else (fd_32_34 h1 M)
theorem te_32_16 {L : Nat} {xs : Nat → Int32} (h1 : Nat) (M : am_M) (q : Int32 × am_M) (hy_h1 : sh_st h1) (h : fd_32_16 h1 M = some q) : am_ev (tb_P L xs) 32 16 [some (.ref 3), some (.ref h1)] [] sh_A M (some (.int q.1), sh_A, q.2) := by
  unfold fd_32_16 at h
  refine am_ev_go (pc' := 17) (L' := [some (.ref 3), some (.ref h1)]) (st' := [.ref h1]) (sh' := sh_A) (M' := M) 1 rfl ?_
  refine ev_getI rfl rfl hy_h1 rfl ?_
  refine am_ev_go (pc' := (am_br .ne (M h1 0) (10 : Int32) 34 25)) (L' := [some (.ref 3), some (.ref h1)]) (st' := []) (sh' := sh_A) (M' := M) 2 rfl ?_
  refine ev_ne (fun hc1 => ?_) (fun hc1 => ?_)
  · rw [if_neg hc1] at h
    exact te_32_34 _ _ _ hy_h1 h
  · rw [if_pos hc1] at h
    refine am_ev_go (pc' := (am_br .ne (M 3 3) 0 34 32)) (L' := [some (.ref 3), some (.ref h1)]) (st' := []) (sh' := sh_A) (M' := M) 3 rfl ?_
    refine ev_ne (fun hc2 => ?_) (fun hc2 => ?_)
    · rw [if_neg hc2] at h
      exact te_32_34 _ _ _ hy_h1 h
    · rw [if_pos hc2] at h
      refine am_ev_go (pc' := 33) (L' := [some (.ref 3), some (.ref h1)]) (st' := [.int (4 : Int32)]) (sh' := sh_A) (M' := M) 1 rfl ?_
      cases h
      exact am_ev_ret rfl
/-- CountedActors$Draft.refusal(LCountedActors$Statement;)I -/
def fd_32 (h1 : Nat) (M : am_M) : Option (Int32 × am_M) := if (M h1 0) = (9 : Int32) then (if (M 3 3) = (0 : Int32) then (fd_32_16 h1 M) else (some ((4 : Int32), M))) else (fd_32_16 h1 M)
theorem te_32 {L : Nat} {xs : Nat → Int32} (h1 : Nat) (M : am_M) (q : Int32 × am_M) (hy_h1 : sh_st h1) (h : fd_32 h1 M = some q) : am_ev (tb_P L xs) 32 0 [some (.ref 3), some (.ref h1)] [] sh_A M (some (.int q.1), sh_A, q.2) := by
  unfold fd_32 at h
  refine am_ev_go (pc' := 1) (L' := [some (.ref 3), some (.ref h1)]) (st' := [.ref h1]) (sh' := sh_A) (M' := M) 1 rfl ?_
  refine ev_getI rfl rfl hy_h1 rfl ?_
  refine am_ev_go (pc' := (am_br .ne (M h1 0) (9 : Int32) 16 9)) (L' := [some (.ref 3), some (.ref h1)]) (st' := []) (sh' := sh_A) (M' := M) 2 rfl ?_
  refine ev_ne (fun hc1 => ?_) (fun hc1 => ?_)
  · rw [if_neg hc1] at h
    exact te_32_16 _ _ _ hy_h1 h
  · rw [if_pos hc1] at h
    refine am_ev_go (pc' := (am_br .ne (M 3 3) 0 32 16)) (L' := [some (.ref 3), some (.ref h1)]) (st' := []) (sh' := sh_A) (M' := M) 3 rfl ?_
    refine ev_ne (fun hc2 => ?_) (fun hc2 => ?_)
    · rw [if_neg hc2] at h
      refine am_ev_go (pc' := 33) (L' := [some (.ref 3), some (.ref h1)]) (st' := [.int (4 : Int32)]) (sh' := sh_A) (M' := M) 1 rfl ?_
      cases h
      exact am_ev_ret rfl
    · rw [if_pos hc2] at h
      exact te_32_16 _ _ _ hy_h1 h
/-- CountedActors$Draft.capabilityOf(I)I -/
def fd_42 (a1 : Int32) (M : am_M) : Option (Int32 × am_M) := if a1 < 0 ∨ 7 ≤ a1.toNatClampNeg then none else some ((M 4 a1.toNatClampNeg), M)
theorem te_42 {L : Nat} {xs : Nat → Int32} (a1 : Int32) (M : am_M) (q : Int32 × am_M) (h : fd_42 a1 M = some q) : am_ev (tb_P L xs) 42 0 [some (.ref 3), some (.int a1)] [] sh_A M (some (.int q.1), sh_A, q.2) := by
  unfold fd_42 at h
  refine am_ev_go (pc' := 5) (L' := [some (.ref 3), some (.int a1)]) (st' := [.int a1, .ref 4]) (sh' := sh_A) (M' := M) 3 rfl ?_
  by_cases hg1 : a1 < 0 ∨ 7 ≤ a1.toNatClampNeg
  case pos => rw [if_pos hg1] at h; cases h
  rw [if_neg hg1] at h
  refine ev_iald rfl rfl hg1 ?_
  cases h
  exact am_ev_ret rfl
