def fd_132_14 (M : am_M) : Option (Int32 × am_M) := some ((1 : Int32), M)
set_option maxRecDepth 50000 in
theorem te_132_14 {L : Nat} {xs : Nat → Int32} (M : am_M) (q : Int32 × am_M) (d0 : Option Value) (h : fd_132_14  M = some q) : am_ev (tb_P L xs) 132 14 [d0] [] sh_A M (some (.int q.1), sh_A, q.2) := by
  unfold fd_132_14 at h
  refine am_ev_go (pc' := 19) (L' := [d0]) (st' := [.int (1 : Int32)]) (sh' := sh_A) (M' := M) 2 rfl ?_
  cases h
  exact am_ev_ret rfl
/-- CountedActorsModel.sendable(I)Z -/
def fd_132 (a0 : Int32) (M : am_M) : Option (Int32 × am_M) := if a0 = (0 : Int32) then (fd_132_14 M) else (if a0 = (3 : Int32) then (fd_132_14 M) else (if a0 = (5 : Int32) then (fd_132_14 M) else (some ((0 : Int32), M))))
set_option maxRecDepth 50000 in
theorem te_132 {L : Nat} {xs : Nat → Int32} (a0 : Int32) (M : am_M) (q : Int32 × am_M) (h : fd_132 a0 M = some q) : am_ev (tb_P L xs) 132 0 [some (.int a0)] [] sh_A M (some (.int q.1), sh_A, q.2) := by
  unfold fd_132 at h
  refine am_ev_go (pc' := (am_br .eq a0 0 14 4)) (L' := [some (.int a0)]) (st' := []) (sh' := sh_A) (M' := M) 2 rfl ?_
  refine ev_eq (fun hc1 => ?_) (fun hc1 => ?_)
  · rw [if_pos hc1] at h
    exact te_132_14 _ _ _ h
  · rw [if_neg hc1] at h
    refine am_ev_go (pc' := (am_br .eq a0 (3 : Int32) 14 9)) (L' := [some (.int a0)]) (st' := []) (sh' := sh_A) (M' := M) 3 rfl ?_
    refine ev_eq (fun hc2 => ?_) (fun hc2 => ?_)
    · rw [if_pos hc2] at h
      exact te_132_14 _ _ _ h
    · rw [if_neg hc2] at h
      refine am_ev_go (pc' := (am_br .ne a0 (5 : Int32) 18 14)) (L' := [some (.int a0)]) (st' := []) (sh' := sh_A) (M' := M) 3 rfl ?_
      refine ev_ne (fun hc3 => ?_) (fun hc3 => ?_)
      · rw [if_neg hc3] at h
        refine am_ev_go (pc' := 19) (L' := [some (.int a0)]) (st' := [.int (0 : Int32)]) (sh' := sh_A) (M' := M) 1 rfl ?_
        cases h
        exact am_ev_ret rfl
      · rw [if_pos hc3] at h
        exact te_132_14 _ _ _ h
/-- CountedActorsModel.begin(I)I -/
def fd_131 (a1 : Int32) (M : am_M) : Option (Int32 × am_M) := if (M 96 7) = (0 : Int32) then (if (M 96 6) = (6 : Int32) then (some ((-1 : Int32), M)) else ((fd_132 a1 M).bind fun q3 => if q3.1 = (0 : Int32) then (some ((-1 : Int32), q3.2)) else (if ((ds_w q3.2 96 7 (1 : Int32)) 96 6) < 0 ∨ 6 ≤ ((ds_w q3.2 96 7 (1 : Int32)) 96 6).toNatClampNeg then none else if ((ds_w q3.2 96 7 (1 : Int32)) 96 6) < 0 ∨ 6 ≤ ((ds_w q3.2 96 7 (1 : Int32)) 96 6).toNatClampNeg then none else some ((((ds_w (ds_w (ds_w (ds_w q3.2 96 7 (1 : Int32)) 102 ((ds_w q3.2 96 7 (1 : Int32)) 96 6).toNatClampNeg a1) 103 ((ds_w q3.2 96 7 (1 : Int32)) 96 6).toNatClampNeg (0 : Int32)) 96 6 (((ds_w q3.2 96 7 (1 : Int32)) 96 6) + (1 : Int32))) 96 6) - (1 : Int32)), (ds_w (ds_w (ds_w (ds_w q3.2 96 7 (1 : Int32)) 102 ((ds_w q3.2 96 7 (1 : Int32)) 96 6).toNatClampNeg a1) 103 ((ds_w q3.2 96 7 (1 : Int32)) 96 6).toNatClampNeg (0 : Int32)) 96 6 (((ds_w q3.2 96 7 (1 : Int32)) 96 6) + (1 : Int32))))))) else (some ((-1 : Int32), M))
set_option maxRecDepth 50000 in
theorem te_131 {L : Nat} {xs : Nat → Int32} (a1 : Int32) (M : am_M) (q : Int32 × am_M) (h : fd_131 a1 M = some q) : am_ev (tb_P L xs) 131 0 [some (.ref 96), some (.int a1)] [] sh_A M (some (.int q.1), sh_A, q.2) := by
  unfold fd_131 at h
  refine am_ev_go (pc' := (am_br .ne (M 96 7) 0 23 7)) (L' := [some (.ref 96), some (.int a1)]) (st' := []) (sh' := sh_A) (M' := M) 3 rfl ?_
  refine ev_ne (fun hc1 => ?_) (fun hc1 => ?_)
  · rw [if_neg hc1] at h
    refine am_ev_go (pc' := 24) (L' := [some (.ref 96), some (.int a1)]) (st' := [.int (-1 : Int32)]) (sh' := sh_A) (M' := M) 1 rfl ?_
    cases h
    exact am_ev_ret rfl
  · rw [if_pos hc1] at h
    refine am_ev_go (pc' := (am_br .eq (M 96 6) (6 : Int32) 23 16)) (L' := [some (.ref 96), some (.int a1)]) (st' := []) (sh' := sh_A) (M' := M) 4 rfl ?_
    refine ev_eq (fun hc2 => ?_) (fun hc2 => ?_)
    · rw [if_pos hc2] at h
      refine am_ev_go (pc' := 24) (L' := [some (.ref 96), some (.int a1)]) (st' := [.int (-1 : Int32)]) (sh' := sh_A) (M' := M) 1 rfl ?_
      cases h
      exact am_ev_ret rfl
    · rw [if_neg hc2] at h
      refine am_ev_go (pc' := 17) (L' := [some (.ref 96), some (.int a1)]) (st' := [.int a1]) (sh' := sh_A) (M' := M) 1 rfl ?_
      obtain ⟨q3, hq4, h⟩ := Option.bind_eq_some_iff.mp h
      refine am_ev_call (mj := 132) (as := [.int a1]) (rest := []) (rv := some (.int q3.1)) (sh' := sh_A) (M' := q3.2) rfl (te_132 _ _ _ hq4) ?_
      show am_ev _ 131 20 [some (.ref 96), some (.int a1)] [.int q3.1] sh_A q3.2 _
      refine am_ev_go (pc' := (am_br .ne q3.1 0 25 23)) (L' := [some (.ref 96), some (.int a1)]) (st' := []) (sh' := sh_A) (M' := q3.2) 1 rfl ?_
      refine ev_ne (fun hc5 => ?_) (fun hc5 => ?_)
      · rw [if_neg hc5] at h
        refine am_ev_go (pc' := 39) (L' := [some (.ref 96), some (.int a1)]) (st' := [.int a1, .int ((ds_w q3.2 96 7 (1 : Int32)) 96 6), .ref 102]) (sh' := sh_A) (M' := (ds_w q3.2 96 7 (1 : Int32))) 8 rfl ?_
        by_cases hg6 : ((ds_w q3.2 96 7 (1 : Int32)) 96 6) < 0 ∨ 6 ≤ ((ds_w q3.2 96 7 (1 : Int32)) 96 6).toNatClampNeg
        case pos => rw [if_pos hg6] at h; cases h
        rw [if_neg hg6] at h
        refine ev_iast rfl rfl hg6 ?_
        refine am_ev_go (pc' := 49) (L' := [some (.ref 96), some (.int a1)]) (st' := [.int (0 : Int32), .int ((ds_w q3.2 96 7 (1 : Int32)) 96 6), .ref 103]) (sh' := sh_A) (M' := (ds_w (ds_w q3.2 96 7 (1 : Int32)) 102 ((ds_w q3.2 96 7 (1 : Int32)) 96 6).toNatClampNeg a1)) 5 rfl ?_
        by_cases hg7 : ((ds_w q3.2 96 7 (1 : Int32)) 96 6) < 0 ∨ 6 ≤ ((ds_w q3.2 96 7 (1 : Int32)) 96 6).toNatClampNeg
        case pos => rw [if_pos hg7] at h; cases h
        rw [if_neg hg7] at h
        refine ev_iast rfl rfl hg7 ?_
        refine am_ev_go (pc' := 66) (L' := [some (.ref 96), some (.int a1)]) (st' := [.int (((ds_w (ds_w (ds_w (ds_w q3.2 96 7 (1 : Int32)) 102 ((ds_w q3.2 96 7 (1 : Int32)) 96 6).toNatClampNeg a1) 103 ((ds_w q3.2 96 7 (1 : Int32)) 96 6).toNatClampNeg (0 : Int32)) 96 6 (((ds_w q3.2 96 7 (1 : Int32)) 96 6) + (1 : Int32))) 96 6) - (1 : Int32))]) (sh' := sh_A) (M' := (ds_w (ds_w (ds_w (ds_w q3.2 96 7 (1 : Int32)) 102 ((ds_w q3.2 96 7 (1 : Int32)) 96 6).toNatClampNeg a1) 103 ((ds_w q3.2 96 7 (1 : Int32)) 96 6).toNatClampNeg (0 : Int32)) 96 6 (((ds_w q3.2 96 7 (1 : Int32)) 96 6) + (1 : Int32)))) 10 rfl ?_
        cases h
        exact am_ev_ret rfl
      · rw [if_pos hc5] at h
        refine am_ev_go (pc' := 24) (L' := [some (.ref 96), some (.int a1)]) (st' := [.int (-1 : Int32)]) (sh' := sh_A) (M' := q3.2) 1 rfl ?_
        cases h
        exact am_ev_ret rfl
/-- CountedActorsModel.drop()Z -/
def fd_133 (M : am_M) : Option (Int32 × am_M) := if (M 96 7) = (0 : Int32) then (some ((0 : Int32), M)) else (some ((1 : Int32), (ds_w (ds_w M 96 7 (0 : Int32)) 96 6 (((ds_w M 96 7 (0 : Int32)) 96 6) - (1 : Int32)))))
set_option maxRecDepth 50000 in
theorem te_133 {L : Nat} {xs : Nat → Int32} (M : am_M) (q : Int32 × am_M) (h : fd_133  M = some q) : am_ev (tb_P L xs) 133 0 [some (.ref 96)] [] sh_A M (some (.int q.1), sh_A, q.2) := by
  unfold fd_133 at h
  refine am_ev_go (pc' := (am_br .ne (M 96 7) 0 9 7)) (L' := [some (.ref 96)]) (st' := []) (sh' := sh_A) (M' := M) 3 rfl ?_
  refine ev_ne (fun hc1 => ?_) (fun hc1 => ?_)
  · rw [if_neg hc1] at h
    refine am_ev_go (pc' := 25) (L' := [some (.ref 96)]) (st' := [.int (1 : Int32)]) (sh' := sh_A) (M' := (ds_w (ds_w M 96 7 (0 : Int32)) 96 6 (((ds_w M 96 7 (0 : Int32)) 96 6) - (1 : Int32)))) 10 rfl ?_
    cases h
    exact am_ev_ret rfl
  · rw [if_pos hc1] at h
    refine am_ev_go (pc' := 8) (L' := [some (.ref 96)]) (st' := [.int (0 : Int32)]) (sh' := sh_A) (M' := M) 1 rfl ?_
    cases h
    exact am_ev_ret rfl
/-- CountedActorsModel.become(II)V -/
def fd_137 (a1 : Int32) (a2 : Int32) (M : am_M) : Option (am_M) := if a1 < 0 ∨ 6 ≤ a1.toNatClampNeg then none else if (M 96 14) = (0 : Int32) then (some (ds_w M 105 a1.toNatClampNeg a2)) else (if a1 < 0 ∨ 6 ≤ a1.toNatClampNeg then none else if a1 < 0 ∨ 6 ≤ a1.toNatClampNeg then none else some (ds_w (ds_w (ds_w M 105 a1.toNatClampNeg a2) 107 a1.toNatClampNeg ((1 : Int32) &&& 1)) 106 a1.toNatClampNeg ((0 : Int32) &&& 1)))
set_option maxRecDepth 50000 in
theorem te_137 {L : Nat} {xs : Nat → Int32} (a1 : Int32) (a2 : Int32) (M : am_M) (q : am_M) (h : fd_137 a1 a2 M = some q) : am_ev (tb_P L xs) 137 0 [some (.ref 96), some (.int a1), some (.int a2)] [] sh_A M (none, sh_A, q) := by
  unfold fd_137 at h
  refine am_ev_go (pc' := 6) (L' := [some (.ref 96), some (.int a1), some (.int a2)]) (st' := [.int a2, .int a1, .ref 105]) (sh' := sh_A) (M' := M) 4 rfl ?_
  by_cases hg1 : a1 < 0 ∨ 6 ≤ a1.toNatClampNeg
  case pos => rw [if_pos hg1] at h; cases h
  rw [if_neg hg1] at h
  refine ev_iast rfl rfl hg1 ?_
  refine am_ev_go (pc' := (am_br .eq (M 96 14) 0 28 14)) (L' := [some (.ref 96), some (.int a1), some (.int a2)]) (st' := []) (sh' := sh_A) (M' := (ds_w M 105 a1.toNatClampNeg a2)) 3 rfl ?_
  refine ev_eq (fun hc2 => ?_) (fun hc2 => ?_)
  · rw [if_pos hc2] at h
    cases h
    exact am_ev_ret rfl
  · rw [if_neg hc2] at h
    refine am_ev_go (pc' := 20) (L' := [some (.ref 96), some (.int a1), some (.int a2)]) (st' := [.int (1 : Int32), .int a1, .ref 107]) (sh' := sh_A) (M' := (ds_w M 105 a1.toNatClampNeg a2)) 4 rfl ?_
    by_cases hg3 : a1 < 0 ∨ 6 ≤ a1.toNatClampNeg
    case pos => rw [if_pos hg3] at h; cases h
    rw [if_neg hg3] at h
    refine ev_bast rfl rfl hg3 ?_
    refine am_ev_go (pc' := 27) (L' := [some (.ref 96), some (.int a1), some (.int a2)]) (st' := [.int (0 : Int32), .int a1, .ref 106]) (sh' := sh_A) (M' := (ds_w (ds_w M 105 a1.toNatClampNeg a2) 107 a1.toNatClampNeg ((1 : Int32) &&& 1))) 4 rfl ?_
    by_cases hg4 : a1 < 0 ∨ 6 ≤ a1.toNatClampNeg
    case pos => rw [if_pos hg4] at h; cases h
    rw [if_neg hg4] at h
    refine ev_bast rfl rfl hg4 ?_
    cases h
    exact am_ev_ret rfl
/-- CountedActorsModel.alias(I)I -/
def fd_138 (a0 : Int32) (M : am_M) : Option (Int32 × am_M) := if a0 = (0 : Int32) then (some ((5 : Int32), M)) else (if a0 = (1 : Int32) then (some ((4 : Int32), M)) else (some (a0, M)))
set_option maxRecDepth 50000 in
theorem te_138 {L : Nat} {xs : Nat → Int32} (a0 : Int32) (M : am_M) (q : Int32 × am_M) (h : fd_138 a0 M = some q) : am_ev (tb_P L xs) 138 0 [some (.int a0)] [] sh_A M (some (.int q.1), sh_A, q.2) := by
  unfold fd_138 at h
  refine am_ev_go (pc' := (am_br .ne a0 0 8 4)) (L' := [some (.int a0)]) (st' := []) (sh' := sh_A) (M' := M) 2 rfl ?_
  refine ev_ne (fun hc1 => ?_) (fun hc1 => ?_)
  · rw [if_neg hc1] at h
    refine am_ev_go (pc' := (am_br .ne a0 (1 : Int32) 17 13)) (L' := [some (.int a0)]) (st' := []) (sh' := sh_A) (M' := M) 3 rfl ?_
    refine ev_ne (fun hc2 => ?_) (fun hc2 => ?_)
    · rw [if_neg hc2] at h
      refine am_ev_go (pc' := 18) (L' := [some (.int a0)]) (st' := [.int a0]) (sh' := sh_A) (M' := M) 1 rfl ?_
      cases h
      exact am_ev_ret rfl
    · rw [if_pos hc2] at h
      refine am_ev_go (pc' := 18) (L' := [some (.int a0)]) (st' := [.int (4 : Int32)]) (sh' := sh_A) (M' := M) 2 rfl ?_
      cases h
      exact am_ev_ret rfl
  · rw [if_pos hc1] at h
    refine am_ev_go (pc' := 18) (L' := [some (.int a0)]) (st' := [.int (5 : Int32)]) (sh' := sh_A) (M' := M) 2 rfl ?_
    cases h
    exact am_ev_ret rfl
/-- CountedActorsModel.has(I)I -/
def fd_139 (a1 : Int32) (M : am_M) : Option (Int32 × am_M) := if a1 = (6 : Int32) then (some ((2 : Int32), M)) else (if a1 < 0 ∨ 6 ≤ a1.toNatClampNeg then none else some ((M 105 a1.toNatClampNeg), M))
set_option maxRecDepth 50000 in
theorem te_139 {L : Nat} {xs : Nat → Int32} (a1 : Int32) (M : am_M) (q : Int32 × am_M) (h : fd_139 a1 M = some q) : am_ev (tb_P L xs) 139 0 [some (.ref 96), some (.int a1)] [] sh_A M (some (.int q.1), sh_A, q.2) := by
  unfold fd_139 at h
  refine am_ev_go (pc' := (am_br .ne a1 (6 : Int32) 10 6)) (L' := [some (.ref 96), some (.int a1)]) (st' := []) (sh' := sh_A) (M' := M) 3 rfl ?_
  refine ev_ne (fun hc1 => ?_) (fun hc1 => ?_)
  · rw [if_neg hc1] at h
    refine am_ev_go (pc' := 15) (L' := [some (.ref 96), some (.int a1)]) (st' := [.int a1, .ref 105]) (sh' := sh_A) (M' := M) 3 rfl ?_
    by_cases hg2 : a1 < 0 ∨ 6 ≤ a1.toNatClampNeg
    case pos => rw [if_pos hg2] at h; cases h
    rw [if_neg hg2] at h
    refine ev_iald rfl rfl hg2 ?_
    cases h
    exact am_ev_ret rfl
  · rw [if_pos hc1] at h
    refine am_ev_go (pc' := 16) (L' := [some (.ref 96), some (.int a1)]) (st' := [.int (2 : Int32)]) (sh' := sh_A) (M' := M) 2 rfl ?_
    cases h
    exact am_ev_ret rfl
/-- CountedActorsModel.pick(II)I -/
def fd_141 (a0 : Int32) (a1 : Int32) (M : am_M) : Option (Int32 × am_M) := some (((a0 >>> (((4 : Int32) * a1) &&& 31)) &&& (15 : Int32)), M)
set_option maxRecDepth 50000 in
theorem te_141 {L : Nat} {xs : Nat → Int32} (a0 : Int32) (a1 : Int32) (M : am_M) (q : Int32 × am_M) (h : fd_141 a0 a1 M = some q) : am_ev (tb_P L xs) 141 0 [some (.int a0), some (.int a1)] [] sh_A M (some (.int q.1), sh_A, q.2) := by
  unfold fd_141 at h
  refine am_ev_go (pc' := 8) (L' := [some (.int a0), some (.int a1)]) (st' := [.int ((a0 >>> (((4 : Int32) * a1) &&& 31)) &&& (15 : Int32))]) (sh' := sh_A) (M' := M) 7 rfl ?_
  cases h
  exact am_ev_ret rfl
def fd_140_41 (x1 : Int32) (y0 : Int32) (M : am_M) : Option (Int32 × am_M) := (fd_141 y0 x1 M).bind fun q1 => some (q1.1, q1.2)
set_option maxRecDepth 50000 in
theorem te_140_41 {L : Nat} {xs : Nat → Int32} (x1 : Int32) (y0 : Int32) (M : am_M) (q : Int32 × am_M) (d0 d2 : Option Value) (h : fd_140_41 x1 y0 M = some q) : am_ev (tb_P L xs) 140 41 [d0, some (.int x1), d2] [.int y0] sh_A M (some (.int q.1), sh_A, q.2) := by
  unfold fd_140_41 at h
  refine am_ev_go (pc' := 44) (L' := [d0, some (.int x1), some (.int y0)]) (st' := [.int x1, .int y0]) (sh' := sh_A) (M' := M) 3 rfl ?_
  obtain ⟨q1, hq2, h⟩ := Option.bind_eq_some_iff.mp h
  refine am_ev_call (mj := 141) (as := [.int y0, .int x1]) (rest := []) (rv := some (.int q1.1)) (sh' := sh_A) (M' := q1.2) rfl (te_141 _ _ _ _ hq2) ?_
  show am_ev _ 140 47 [d0, some (.int x1), some (.int y0)] [.int q1.1] sh_A q1.2 _
  cases h
  exact am_ev_ret rfl
/-- CountedActorsModel.view(II)I -/
def fd_140 (a0 : Int32) (a1 : Int32) (M : am_M) : Option (Int32 × am_M) := if a0 = (0 : Int32) then (fd_140_41 a1 (5584208 : Int32) M) else (if a0 = (1 : Int32) then (fd_140_41 a1 (5518400 : Int32) M) else (if a0 = (2 : Int32) then (fd_140_41 a1 (5517840 : Int32) M) else (if a0 = (3 : Int32) then (fd_140_41 a1 (5452595 : Int32) M) else (fd_140_41 a1 (5518405 : Int32) M))))
set_option maxRecDepth 50000 in
theorem te_140 {L : Nat} {xs : Nat → Int32} (a0 : Int32) (a1 : Int32) (M : am_M) (q : Int32 × am_M) (h : fd_140 a0 a1 M = some q) : am_ev (tb_P L xs) 140 0 [some (.int a0), some (.int a1), none] [] sh_A M (some (.int q.1), sh_A, q.2) := by
  unfold fd_140 at h
  refine am_ev_go (pc' := (am_br .ne a0 0 9 4)) (L' := [some (.int a0), some (.int a1), none]) (st' := []) (sh' := sh_A) (M' := M) 2 rfl ?_
  refine ev_ne (fun hc1 => ?_) (fun hc1 => ?_)
  · rw [if_neg hc1] at h
    refine am_ev_go (pc' := (am_br .ne a0 (1 : Int32) 19 14)) (L' := [some (.int a0), some (.int a1), none]) (st' := []) (sh' := sh_A) (M' := M) 3 rfl ?_
    refine ev_ne (fun hc2 => ?_) (fun hc2 => ?_)
    · rw [if_neg hc2] at h
      refine am_ev_go (pc' := (am_br .ne a0 (2 : Int32) 29 24)) (L' := [some (.int a0), some (.int a1), none]) (st' := []) (sh' := sh_A) (M' := M) 3 rfl ?_
      refine ev_ne (fun hc3 => ?_) (fun hc3 => ?_)
      · rw [if_neg hc3] at h
        refine am_ev_go (pc' := (am_br .ne a0 (3 : Int32) 39 34)) (L' := [some (.int a0), some (.int a1), none]) (st' := []) (sh' := sh_A) (M' := M) 3 rfl ?_
        refine ev_ne (fun hc4 => ?_) (fun hc4 => ?_)
        · rw [if_neg hc4] at h
          refine am_ev_go (pc' := 41) (L' := [some (.int a0), some (.int a1), none]) (st' := [.int (5518405 : Int32)]) (sh' := sh_A) (M' := M) 1 rfl ?_
          exact te_140_41 _ _ _ _ _ _ h
        · rw [if_pos hc4] at h
          refine am_ev_go (pc' := 41) (L' := [some (.int a0), some (.int a1), none]) (st' := [.int (5452595 : Int32)]) (sh' := sh_A) (M' := M) 2 rfl ?_
          exact te_140_41 _ _ _ _ _ _ h
      · rw [if_pos hc3] at h
        refine am_ev_go (pc' := 41) (L' := [some (.int a0), some (.int a1), none]) (st' := [.int (5517840 : Int32)]) (sh' := sh_A) (M' := M) 2 rfl ?_
        exact te_140_41 _ _ _ _ _ _ h
    · rw [if_pos hc2] at h
      refine am_ev_go (pc' := 41) (L' := [some (.int a0), some (.int a1), none]) (st' := [.int (5518400 : Int32)]) (sh' := sh_A) (M' := M) 2 rfl ?_
      exact te_140_41 _ _ _ _ _ _ h
  · rw [if_pos hc1] at h
    refine am_ev_go (pc' := 41) (L' := [some (.int a0), some (.int a1), none]) (st' := [.int (5584208 : Int32)]) (sh' := sh_A) (M' := M) 2 rfl ?_
    exact te_140_41 _ _ _ _ _ _ h
def fd_142_21 (x1 : Int32) (y0 : Int32) (M : am_M) : Option (Int32 × am_M) := (fd_141 y0 x1 M).bind fun q1 => some (q1.1, q1.2)
set_option maxRecDepth 50000 in
theorem te_142_21 {L : Nat} {xs : Nat → Int32} (x1 : Int32) (y0 : Int32) (M : am_M) (q : Int32 × am_M) (d0 d2 : Option Value) (h : fd_142_21 x1 y0 M = some q) : am_ev (tb_P L xs) 142 21 [d0, some (.int x1), d2] [.int y0] sh_A M (some (.int q.1), sh_A, q.2) := by
  unfold fd_142_21 at h
  refine am_ev_go (pc' := 24) (L' := [d0, some (.int x1), some (.int y0)]) (st' := [.int x1, .int y0]) (sh' := sh_A) (M' := M) 3 rfl ?_
  obtain ⟨q1, hq2, h⟩ := Option.bind_eq_some_iff.mp h
  refine am_ev_call (mj := 141) (as := [.int y0, .int x1]) (rest := []) (rv := some (.int q1.1)) (sh' := sh_A) (M' := q1.2) rfl (te_141 _ _ _ _ hq2) ?_
  show am_ev _ 142 27 [d0, some (.int x1), some (.int y0)] [.int q1.1] sh_A q1.2 _
  cases h
  exact am_ev_ret rfl
/-- CountedActorsModel.drawn(II)I -/
def fd_142 (a0 : Int32) (a1 : Int32) (M : am_M) : Option (Int32 × am_M) := if a0 = (0 : Int32) then (fd_142_21 a1 (5584176 : Int32) M) else (if a0 = (1 : Int32) then (fd_142_21 a1 (5518384 : Int32) M) else (fd_142_21 a1 (5517840 : Int32) M))
set_option maxRecDepth 50000 in
theorem te_142 {L : Nat} {xs : Nat → Int32} (a0 : Int32) (a1 : Int32) (M : am_M) (q : Int32 × am_M) (h : fd_142 a0 a1 M = some q) : am_ev (tb_P L xs) 142 0 [some (.int a0), some (.int a1), none] [] sh_A M (some (.int q.1), sh_A, q.2) := by
  unfold fd_142 at h
  refine am_ev_go (pc' := (am_br .ne a0 0 9 4)) (L' := [some (.int a0), some (.int a1), none]) (st' := []) (sh' := sh_A) (M' := M) 2 rfl ?_
  refine ev_ne (fun hc1 => ?_) (fun hc1 => ?_)
  · rw [if_neg hc1] at h
    refine am_ev_go (pc' := (am_br .ne a0 (1 : Int32) 19 14)) (L' := [some (.int a0), some (.int a1), none]) (st' := []) (sh' := sh_A) (M' := M) 3 rfl ?_
    refine ev_ne (fun hc2 => ?_) (fun hc2 => ?_)
    · rw [if_neg hc2] at h
      refine am_ev_go (pc' := 21) (L' := [some (.int a0), some (.int a1), none]) (st' := [.int (5517840 : Int32)]) (sh' := sh_A) (M' := M) 1 rfl ?_
      exact te_142_21 _ _ _ _ _ _ h
    · rw [if_pos hc2] at h
      refine am_ev_go (pc' := 21) (L' := [some (.int a0), some (.int a1), none]) (st' := [.int (5518384 : Int32)]) (sh' := sh_A) (M' := M) 2 rfl ?_
      exact te_142_21 _ _ _ _ _ _ h
  · rw [if_pos hc1] at h
    refine am_ev_go (pc' := 21) (L' := [some (.int a0), some (.int a1), none]) (st' := [.int (5584176 : Int32)]) (sh' := sh_A) (M' := M) 2 rfl ?_
    exact te_142_21 _ _ _ _ _ _ h
def fd_144_14 (M : am_M) : Option (Int32 × am_M) := some ((1 : Int32), M)
set_option maxRecDepth 50000 in
theorem te_144_14 {L : Nat} {xs : Nat → Int32} (M : am_M) (q : Int32 × am_M) (d0 : Option Value) (h : fd_144_14  M = some q) : am_ev (tb_P L xs) 144 14 [d0] [] sh_A M (some (.int q.1), sh_A, q.2) := by
  unfold fd_144_14 at h
  refine am_ev_go (pc' := 19) (L' := [d0]) (st' := [.int (1 : Int32)]) (sh' := sh_A) (M' := M) 2 rfl ?_
  cases h
  exact am_ev_ret rfl
/-- CountedActorsModel.writable(I)Z -/
def fd_144 (a0 : Int32) (M : am_M) : Option (Int32 × am_M) := if a0 = (0 : Int32) then (fd_144_14 M) else (if a0 = (1 : Int32) then (fd_144_14 M) else (if a0 = (2 : Int32) then (fd_144_14 M) else (some ((0 : Int32), M))))
set_option maxRecDepth 50000 in
theorem te_144 {L : Nat} {xs : Nat → Int32} (a0 : Int32) (M : am_M) (q : Int32 × am_M) (h : fd_144 a0 M = some q) : am_ev (tb_P L xs) 144 0 [some (.int a0)] [] sh_A M (some (.int q.1), sh_A, q.2) := by
  unfold fd_144 at h
  refine am_ev_go (pc' := (am_br .eq a0 0 14 4)) (L' := [some (.int a0)]) (st' := []) (sh' := sh_A) (M' := M) 2 rfl ?_
  refine ev_eq (fun hc1 => ?_) (fun hc1 => ?_)
  · rw [if_pos hc1] at h
    exact te_144_14 _ _ _ h
  · rw [if_neg hc1] at h
    refine am_ev_go (pc' := (am_br .eq a0 (1 : Int32) 14 9)) (L' := [some (.int a0)]) (st' := []) (sh' := sh_A) (M' := M) 3 rfl ?_
    refine ev_eq (fun hc2 => ?_) (fun hc2 => ?_)
    · rw [if_pos hc2] at h
      exact te_144_14 _ _ _ h
    · rw [if_neg hc2] at h
      refine am_ev_go (pc' := (am_br .ne a0 (2 : Int32) 18 14)) (L' := [some (.int a0)]) (st' := []) (sh' := sh_A) (M' := M) 3 rfl ?_
      refine ev_ne (fun hc3 => ?_) (fun hc3 => ?_)
      · rw [if_neg hc3] at h
        refine am_ev_go (pc' := 19) (L' := [some (.int a0)]) (st' := [.int (0 : Int32)]) (sh' := sh_A) (M' := M) 1 rfl ?_
        cases h
        exact am_ev_ret rfl
      · rw [if_pos hc3] at h
        exact te_144_14 _ _ _ h
def fd_143_95 (y1 : Int32) (y2 : Int32) (M : am_M) : Option (am_M) := if y1 < 0 ∨ 6 ≤ y1.toNatClampNeg then none else some (ds_w M 105 y1.toNatClampNeg y2)
set_option maxRecDepth 50000 in
theorem te_143_95 {L : Nat} {xs : Nat → Int32} (y1 : Int32) (y2 : Int32) (M : am_M) (q : am_M) (d0 d1 d2 d3 d4 : Option Value) (h : fd_143_95 y1 y2 M = some q) : am_ev (tb_P L xs) 143 95 [d0, d1, d2, d3, d4] [.int y2, .int y1, .ref 105] sh_A M (none, sh_A, q) := by
  unfold fd_143_95 at h
  by_cases hg1 : y1 < 0 ∨ 6 ≤ y1.toNatClampNeg
  case pos => rw [if_pos hg1] at h; cases h
  rw [if_neg hg1] at h
  refine ev_iast rfl rfl hg1 ?_
  cases h
  exact am_ev_ret rfl
def fd_143_42 (k17 : Int32 → Int32 → Int32 → am_M → Option (am_M)) (x1 : Int32) (x3 : Int32) (x4 : Int32) (M : am_M) : Option (am_M) := if x4 < 0 ∨ 6 ≤ x4.toNatClampNeg then none else if x4 < 0 ∨ 6 ≤ x4.toNatClampNeg then none else k17 x1 x3 (x4 + (1 : Int32)) (ds_w (ds_w M 107 x4.toNatClampNeg ((0 : Int32) &&& 1)) 106 x4.toNatClampNeg ((0 : Int32) &&& 1))
set_option maxRecDepth 50000 in
theorem te_143_42 {L : Nat} {xs : Nat → Int32} {k17 : Int32 → Int32 → Int32 → am_M → Option (am_M)} (hk17 : ∀ (x1 : Int32) (x3 : Int32) (x4 : Int32) (M : am_M) (q : am_M) (e2 : Option Value), k17 x1 x3 x4 M = some q → am_ev (tb_P L xs) 143 17 [some (.ref 96), some (.int x1), e2, some (.int x3), some (.int x4)] [] sh_A M (none, sh_A, q)) (x1 : Int32) (x3 : Int32) (x4 : Int32) (M : am_M) (q : am_M) (d2 : Option Value) (h : fd_143_42 k17 x1 x3 x4 M = some q) : am_ev (tb_P L xs) 143 42 [some (.ref 96), some (.int x1), d2, some (.int x3), some (.int x4)] [] sh_A M (none, sh_A, q) := by
  unfold fd_143_42 at h
  refine am_ev_go (pc' := 49) (L' := [some (.ref 96), some (.int x1), d2, some (.int x3), some (.int x4)]) (st' := [.int (0 : Int32), .int x4, .ref 107]) (sh' := sh_A) (M' := M) 4 rfl ?_
  by_cases hg1 : x4 < 0 ∨ 6 ≤ x4.toNatClampNeg
  case pos => rw [if_pos hg1] at h; cases h
  rw [if_neg hg1] at h
  refine ev_bast rfl rfl hg1 ?_
  refine am_ev_go (pc' := 57) (L' := [some (.ref 96), some (.int x1), d2, some (.int x3), some (.int x4)]) (st' := [.int (0 : Int32), .int x4, .ref 106]) (sh' := sh_A) (M' := (ds_w M 107 x4.toNatClampNeg ((0 : Int32) &&& 1))) 4 rfl ?_
  by_cases hg2 : x4 < 0 ∨ 6 ≤ x4.toNatClampNeg
  case pos => rw [if_pos hg2] at h; cases h
  rw [if_neg hg2] at h
  refine ev_bast rfl rfl hg2 ?_
  refine am_ev_go (pc' := 17) (L' := [some (.ref 96), some (.int x1), d2, some (.int x3), some (.int (x4 + (1 : Int32)))]) (st' := []) (sh' := sh_A) (M' := (ds_w (ds_w M 107 x4.toNatClampNeg ((0 : Int32) &&& 1)) 106 x4.toNatClampNeg ((0 : Int32) &&& 1))) 2 rfl ?_
  exact hk17 _ _ _ _ _ _ h
def fd_143_17 (f : Nat) : Int32 → Int32 → Int32 → am_M → Option (am_M) := Nat.rec (motive := fun _ => Int32 → Int32 → Int32 → am_M → Option (am_M)) (fun _ _ _ _ => none) (fun _ k17 => fun x1 x3 x4 M => if (6 : Int32) ≤ x4 then ((fd_144 x3 (ds_w M 96 14 (0 : Int32))).bind fun q2 => if q2.1 = (0 : Int32) then (if x3 = (5 : Int32) then (fd_143_95 x1 (5 : Int32) q2.2) else (fd_143_95 x1 (3 : Int32) q2.2)) else (fd_143_95 x1 (0 : Int32) q2.2)) else (if x4 < 0 ∨ 6 ≤ x4.toNatClampNeg then none else if (M 107 x4.toNatClampNeg) = (0 : Int32) then (fd_143_42 k17 x1 x3 x4 M) else (if x4 < 0 ∨ 6 ≤ x4.toNatClampNeg then none else fd_143_42 k17 x1 x3 x4 (ds_w M 105 x4.toNatClampNeg (-1 : Int32))))) f
set_option maxRecDepth 50000 in
theorem te_143_17 {L : Nat} {xs : Nat → Int32} : ∀ (f : Nat) (x1 : Int32) (x3 : Int32) (x4 : Int32) (M : am_M) (q : am_M) (d2 : Option Value), fd_143_17 f x1 x3 x4 M = some q → am_ev (tb_P L xs) 143 17 [some (.ref 96), some (.int x1), d2, some (.int x3), some (.int x4)] [] sh_A M (none, sh_A, q) := by
  intro f
  induction f with
  | zero => intro x1 x3 x4 M q d2 h; cases h
  | succ f hk17 =>
    intro x1 x3 x4 M q d2 h
    change (if (6 : Int32) ≤ x4 then ((fd_144 x3 (ds_w M 96 14 (0 : Int32))).bind fun q2 => if q2.1 = (0 : Int32) then (if x3 = (5 : Int32) then (fd_143_95 x1 (5 : Int32) q2.2) else (fd_143_95 x1 (3 : Int32) q2.2)) else (fd_143_95 x1 (0 : Int32) q2.2)) else (if x4 < 0 ∨ 6 ≤ x4.toNatClampNeg then none else if (M 107 x4.toNatClampNeg) = (0 : Int32) then (fd_143_42 (fd_143_17 f) x1 x3 x4 M) else (if x4 < 0 ∨ 6 ≤ x4.toNatClampNeg then none else fd_143_42 (fd_143_17 f) x1 x3 x4 (ds_w M 105 x4.toNatClampNeg (-1 : Int32))))) = some q at h
    refine am_ev_go (pc' := (am_br .ge x4 (6 : Int32) 64 24)) (L' := [some (.ref 96), some (.int x1), d2, some (.int x3), some (.int x4)]) (st' := []) (sh' := sh_A) (M' := M) 3 rfl ?_
    refine ev_ge (fun hc1 => ?_) (fun hc1 => ?_)
    · rw [if_pos hc1] at h
      refine am_ev_go (pc' := 75) (L' := [some (.ref 96), some (.int x1), d2, some (.int x3), some (.int x4)]) (st' := [.int x3, .int x1, .ref 105]) (sh' := sh_A) (M' := (ds_w M 96 14 (0 : Int32))) 7 rfl ?_
      obtain ⟨q2, hq3, h⟩ := Option.bind_eq_some_iff.mp h
      refine am_ev_call (mj := 144) (as := [.int x3]) (rest := [.int x1, .ref 105]) (rv := some (.int q2.1)) (sh' := sh_A) (M' := q2.2) rfl (te_144 _ _ _ hq3) ?_
      show am_ev _ 143 78 [some (.ref 96), some (.int x1), d2, some (.int x3), some (.int x4)] [.int q2.1, .int x1, .ref 105] sh_A q2.2 _
      refine am_ev_go (pc' := (am_br .eq q2.1 0 85 81)) (L' := [some (.ref 96), some (.int x1), d2, some (.int x3), some (.int x4)]) (st' := [.int x1, .ref 105]) (sh' := sh_A) (M' := q2.2) 1 rfl ?_
      refine ev_eq (fun hc4 => ?_) (fun hc4 => ?_)
      · rw [if_pos hc4] at h
        refine am_ev_go (pc' := (am_br .ne x3 (5 : Int32) 94 90)) (L' := [some (.ref 96), some (.int x1), d2, some (.int x3), some (.int x4)]) (st' := [.int x1, .ref 105]) (sh' := sh_A) (M' := q2.2) 3 rfl ?_
        refine ev_ne (fun hc5 => ?_) (fun hc5 => ?_)
        · rw [if_neg hc5] at h
          refine am_ev_go (pc' := 95) (L' := [some (.ref 96), some (.int x1), d2, some (.int x3), some (.int x4)]) (st' := [.int (3 : Int32), .int x1, .ref 105]) (sh' := sh_A) (M' := q2.2) 1 rfl ?_
          exact te_143_95 _ _ _ _ _ _ _ _ _ h
        · rw [if_pos hc5] at h
          refine am_ev_go (pc' := 95) (L' := [some (.ref 96), some (.int x1), d2, some (.int x3), some (.int x4)]) (st' := [.int (5 : Int32), .int x1, .ref 105]) (sh' := sh_A) (M' := q2.2) 2 rfl ?_
          exact te_143_95 _ _ _ _ _ _ _ _ _ h
      · rw [if_neg hc4] at h
        refine am_ev_go (pc' := 95) (L' := [some (.ref 96), some (.int x1), d2, some (.int x3), some (.int x4)]) (st' := [.int (0 : Int32), .int x1, .ref 105]) (sh' := sh_A) (M' := q2.2) 2 rfl ?_
        exact te_143_95 _ _ _ _ _ _ _ _ _ h
    · rw [if_neg hc1] at h
      refine am_ev_go (pc' := 30) (L' := [some (.ref 96), some (.int x1), d2, some (.int x3), some (.int x4)]) (st' := [.int x4, .ref 107]) (sh' := sh_A) (M' := M) 3 rfl ?_
      by_cases hg6 : x4 < 0 ∨ 6 ≤ x4.toNatClampNeg
      case pos => rw [if_pos hg6] at h; cases h
      rw [if_neg hg6] at h
      refine ev_bald rfl rfl hg6 ?_
      refine am_ev_go (pc' := (am_br .eq (M 107 x4.toNatClampNeg) 0 42 34)) (L' := [some (.ref 96), some (.int x1), d2, some (.int x3), some (.int x4)]) (st' := []) (sh' := sh_A) (M' := M) 1 rfl ?_
      refine ev_eq (fun hc7 => ?_) (fun hc7 => ?_)
      · rw [if_pos hc7] at h
        exact te_143_42 hk17 _ _ _ _ _ _ h
      · rw [if_neg hc7] at h
        refine am_ev_go (pc' := 41) (L' := [some (.ref 96), some (.int x1), d2, some (.int x3), some (.int x4)]) (st' := [.int (-1 : Int32), .int x4, .ref 105]) (sh' := sh_A) (M' := M) 4 rfl ?_
        by_cases hg8 : x4 < 0 ∨ 6 ≤ x4.toNatClampNeg
        case pos => rw [if_pos hg8] at h; cases h
        rw [if_neg hg8] at h
        refine ev_iast rfl rfl hg8 ?_
        exact te_143_42 hk17 _ _ _ _ _ _ h
/-- CountedActorsModel.leave(II)V -/
def fd_143 (a1 : Int32) (a2 : Int32) (M : am_M) : Option (am_M) := if a2 < 0 ∨ 6 ≤ a2.toNatClampNeg then none else if a2 < 0 ∨ 6 ≤ a2.toNatClampNeg then none else fd_143_17 1000 a1 (M 105 a2.toNatClampNeg) (0 : Int32) (ds_w M 105 a2.toNatClampNeg (-1 : Int32))
set_option maxRecDepth 50000 in
theorem te_143 {L : Nat} {xs : Nat → Int32} (a1 : Int32) (a2 : Int32) (M : am_M) (q : am_M) (h : fd_143 a1 a2 M = some q) : am_ev (tb_P L xs) 143 0 [some (.ref 96), some (.int a1), some (.int a2), none, none] [] sh_A M (none, sh_A, q) := by
  unfold fd_143 at h
  refine am_ev_go (pc' := 5) (L' := [some (.ref 96), some (.int a1), some (.int a2), none, none]) (st' := [.int a2, .ref 105]) (sh' := sh_A) (M' := M) 3 rfl ?_
  by_cases hg1 : a2 < 0 ∨ 6 ≤ a2.toNatClampNeg
  case pos => rw [if_pos hg1] at h; cases h
  rw [if_neg hg1] at h
  refine ev_iald rfl rfl hg1 ?_
  refine am_ev_go (pc' := 13) (L' := [some (.ref 96), some (.int a1), some (.int a2), some (.int (M 105 a2.toNatClampNeg)), none]) (st' := [.int (-1 : Int32), .int a2, .ref 105]) (sh' := sh_A) (M' := M) 5 rfl ?_
  by_cases hg2 : a2 < 0 ∨ 6 ≤ a2.toNatClampNeg
  case pos => rw [if_pos hg2] at h; cases h
  rw [if_neg hg2] at h
  refine ev_iast rfl rfl hg2 ?_
  refine am_ev_go (pc' := 17) (L' := [some (.ref 96), some (.int a1), some (.int a2), some (.int (M 105 a2.toNatClampNeg)), some (.int (0 : Int32))]) (st' := []) (sh' := sh_A) (M' := (ds_w M 105 a2.toNatClampNeg (-1 : Int32))) 2 rfl ?_
  exact te_143_17 1000 _ _ _ _ _ _ h
def fd_136_255 (k213 : Int32 → am_M → Option (am_M)) (x7 : Int32) (y1 : Int32) (y2 : Int32) (M : am_M) : Option (am_M) := if y1 < 0 ∨ 6 ≤ y1.toNatClampNeg then none else if x7 < 0 ∨ 6 ≤ x7.toNatClampNeg then none else k213 (x7 + (1 : Int32)) (ds_w (ds_w M 106 y1.toNatClampNeg (y2 &&& 1)) 107 x7.toNatClampNeg ((0 : Int32) &&& 1))
set_option maxRecDepth 50000 in
theorem te_136_255 {L : Nat} {xs : Nat → Int32} {k213 : Int32 → am_M → Option (am_M)} (hk213 : ∀ (x7 : Int32) (M : am_M) (q : am_M) (e1 e2 e3 e4 e5 e6 : Option Value), k213 x7 M = some q → am_ev (tb_P L xs) 136 213 [some (.ref 96), e1, e2, e3, e4, e5, e6, some (.int x7)] [] sh_A M (none, sh_A, q)) (x7 : Int32) (y1 : Int32) (y2 : Int32) (M : am_M) (q : am_M) (d1 d2 d3 d4 d5 d6 : Option Value) (h : fd_136_255 k213 x7 y1 y2 M = some q) : am_ev (tb_P L xs) 136 255 [some (.ref 96), d1, d2, d3, d4, d5, d6, some (.int x7)] [.int y2, .int y1, .ref 106] sh_A M (none, sh_A, q) := by
  unfold fd_136_255 at h
  by_cases hg1 : y1 < 0 ∨ 6 ≤ y1.toNatClampNeg
  case pos => rw [if_pos hg1] at h; cases h
  rw [if_neg hg1] at h
  refine ev_bast rfl rfl hg1 ?_
  refine am_ev_go (pc' := 263) (L' := [some (.ref 96), d1, d2, d3, d4, d5, d6, some (.int x7)]) (st' := [.int (0 : Int32), .int x7, .ref 107]) (sh' := sh_A) (M' := (ds_w M 106 y1.toNatClampNeg (y2 &&& 1))) 4 rfl ?_
  by_cases hg2 : x7 < 0 ∨ 6 ≤ x7.toNatClampNeg
  case pos => rw [if_pos hg2] at h; cases h
  rw [if_neg hg2] at h
  refine ev_bast rfl rfl hg2 ?_
  refine am_ev_go (pc' := 213) (L' := [some (.ref 96), d1, d2, d3, d4, d5, d6, some (.int (x7 + (1 : Int32)))]) (st' := []) (sh' := sh_A) (M' := (ds_w (ds_w M 106 y1.toNatClampNeg (y2 &&& 1)) 107 x7.toNatClampNeg ((0 : Int32) &&& 1))) 2 rfl ?_
  exact hk213 _ _ _ _ _ _ _ _ _ h
def fd_136_254 (k213 : Int32 → am_M → Option (am_M)) (x7 : Int32) (y1 : Int32) (M : am_M) : Option (am_M) := fd_136_255 k213 x7 y1 (0 : Int32) M
set_option maxRecDepth 50000 in
theorem te_136_254 {L : Nat} {xs : Nat → Int32} {k213 : Int32 → am_M → Option (am_M)} (hk213 : ∀ (x7 : Int32) (M : am_M) (q : am_M) (e1 e2 e3 e4 e5 e6 : Option Value), k213 x7 M = some q → am_ev (tb_P L xs) 136 213 [some (.ref 96), e1, e2, e3, e4, e5, e6, some (.int x7)] [] sh_A M (none, sh_A, q)) (x7 : Int32) (y1 : Int32) (M : am_M) (q : am_M) (d1 d2 d3 d4 d5 d6 : Option Value) (h : fd_136_254 k213 x7 y1 M = some q) : am_ev (tb_P L xs) 136 254 [some (.ref 96), d1, d2, d3, d4, d5, d6, some (.int x7)] [.int y1, .ref 106] sh_A M (none, sh_A, q) := by
  unfold fd_136_254 at h
  refine am_ev_go (pc' := 255) (L' := [some (.ref 96), d1, d2, d3, d4, d5, d6, some (.int x7)]) (st' := [.int (0 : Int32), .int y1, .ref 106]) (sh' := sh_A) (M' := M) 1 rfl ?_
  exact te_136_255 hk213 _ _ _ _ _ _ _ _ _ _ _ h
def fd_136_213 (f : Nat) : Int32 → am_M → Option (am_M) := Nat.rec (motive := fun _ => Int32 → am_M → Option (am_M)) (fun _ _ => none) (fun _ k213 => fun x7 M => if (6 : Int32) ≤ x7 then (some M) else (if x7 < 0 ∨ 6 ≤ x7.toNatClampNeg then none else if (M 105 x7.toNatClampNeg) = (-1 : Int32) then (fd_136_254 k213 x7 x7 M) else (if x7 < 0 ∨ 6 ≤ x7.toNatClampNeg then none else (fd_132 (M 105 x7.toNatClampNeg) M).bind fun q5 => if q5.1 = (0 : Int32) then (fd_136_255 k213 x7 x7 (1 : Int32) q5.2) else (fd_136_254 k213 x7 x7 q5.2)))) f
set_option maxRecDepth 50000 in
theorem te_136_213 {L : Nat} {xs : Nat → Int32} : ∀ (f : Nat) (x7 : Int32) (M : am_M) (q : am_M) (d1 d2 d3 d4 d5 d6 : Option Value), fd_136_213 f x7 M = some q → am_ev (tb_P L xs) 136 213 [some (.ref 96), d1, d2, d3, d4, d5, d6, some (.int x7)] [] sh_A M (none, sh_A, q) := by
  intro f
  induction f with
  | zero => intro x7 M q d1 d2 d3 d4 d5 d6 h; cases h
  | succ f hk213 =>
    intro x7 M q d1 d2 d3 d4 d5 d6 h
    change (if (6 : Int32) ≤ x7 then (some M) else (if x7 < 0 ∨ 6 ≤ x7.toNatClampNeg then none else if (M 105 x7.toNatClampNeg) = (-1 : Int32) then (fd_136_254 (fd_136_213 f) x7 x7 M) else (if x7 < 0 ∨ 6 ≤ x7.toNatClampNeg then none else (fd_132 (M 105 x7.toNatClampNeg) M).bind fun q5 => if q5.1 = (0 : Int32) then (fd_136_255 (fd_136_213 f) x7 x7 (1 : Int32) q5.2) else (fd_136_254 (fd_136_213 f) x7 x7 q5.2)))) = some q at h
    refine am_ev_go (pc' := (am_br .ge x7 (6 : Int32) 270 220)) (L' := [some (.ref 96), d1, d2, d3, d4, d5, d6, some (.int x7)]) (st' := []) (sh' := sh_A) (M' := M) 3 rfl ?_
    refine ev_ge (fun hc1 => ?_) (fun hc1 => ?_)
    · rw [if_pos hc1] at h
      refine am_ev_go (pc' := 286) (L' := [some (.ref 96), d1, d2, d3, d4, d5, d6, some (.int x7)]) (st' := []) (sh' := sh_A) (M' := M) 1 rfl ?_
      cases h
      exact am_ev_ret rfl
    · rw [if_neg hc1] at h
      refine am_ev_go (pc' := 232) (L' := [some (.ref 96), d1, d2, d3, d4, d5, d6, some (.int x7)]) (st' := [.int x7, .ref 105, .int x7, .ref 106]) (sh' := sh_A) (M' := M) 6 rfl ?_
      by_cases hg2 : x7 < 0 ∨ 6 ≤ x7.toNatClampNeg
      case pos => rw [if_pos hg2] at h; cases h
      rw [if_neg hg2] at h
      refine ev_iald rfl rfl hg2 ?_
      refine am_ev_go (pc' := (am_br .eq (M 105 x7.toNatClampNeg) (-1 : Int32) 254 237)) (L' := [some (.ref 96), d1, d2, d3, d4, d5, d6, some (.int x7)]) (st' := [.int x7, .ref 106]) (sh' := sh_A) (M' := M) 2 rfl ?_
      refine ev_eq (fun hc3 => ?_) (fun hc3 => ?_)
      · rw [if_pos hc3] at h
        exact te_136_254 hk213 _ _ _ _ _ _ _ _ _ _ h
      · rw [if_neg hc3] at h
        refine am_ev_go (pc' := 243) (L' := [some (.ref 96), d1, d2, d3, d4, d5, d6, some (.int x7)]) (st' := [.int x7, .ref 105, .int x7, .ref 106]) (sh' := sh_A) (M' := M) 3 rfl ?_
        by_cases hg4 : x7 < 0 ∨ 6 ≤ x7.toNatClampNeg
        case pos => rw [if_pos hg4] at h; cases h
        rw [if_neg hg4] at h
        refine ev_iald rfl rfl hg4 ?_
        obtain ⟨q5, hq6, h⟩ := Option.bind_eq_some_iff.mp h
        refine am_ev_call (mj := 132) (as := [.int (M 105 x7.toNatClampNeg)]) (rest := [.int x7, .ref 106]) (rv := some (.int q5.1)) (sh' := sh_A) (M' := q5.2) rfl (te_132 _ _ _ hq6) ?_
        show am_ev _ 136 247 [some (.ref 96), d1, d2, d3, d4, d5, d6, some (.int x7)] [.int q5.1, .int x7, .ref 106] sh_A q5.2 _
        refine am_ev_go (pc' := (am_br .ne q5.1 0 254 250)) (L' := [some (.ref 96), d1, d2, d3, d4, d5, d6, some (.int x7)]) (st' := [.int x7, .ref 106]) (sh' := sh_A) (M' := q5.2) 1 rfl ?_
        refine ev_ne (fun hc7 => ?_) (fun hc7 => ?_)
        · rw [if_neg hc7] at h
          exact te_136_254 hk213 _ _ _ _ _ _ _ _ _ _ h
        · rw [if_pos hc7] at h
          refine am_ev_go (pc' := 255) (L' := [some (.ref 96), d1, d2, d3, d4, d5, d6, some (.int x7)]) (st' := [.int (1 : Int32), .int x7, .ref 106]) (sh' := sh_A) (M' := q5.2) 2 rfl ?_
          exact te_136_255 hk213 _ _ _ _ _ _ _ _ _ _ _ h
/-- CountedActorsModel.effect(I)V -/
def fd_136 (a1 : Int32) (M : am_M) : Option (am_M) := if a1 < 0 ∨ 300 ≤ a1.toNatClampNeg then none else if (a1 + (1 : Int32)) < 0 ∨ 300 ≤ (a1 + (1 : Int32)).toNatClampNeg then none else if (a1 + (2 : Int32)) < 0 ∨ 300 ≤ (a1 + (2 : Int32)).toNatClampNeg then none else if (a1 + (3 : Int32)) < 0 ∨ 300 ≤ (a1 + (3 : Int32)).toNatClampNeg then none else if (a1 + (4 : Int32)) < 0 ∨ 300 ≤ (a1 + (4 : Int32)).toNatClampNeg then none else if (M 104 a1.toNatClampNeg) = (0 : Int32) then ((fd_137 (M 104 (a1 + (1 : Int32)).toNatClampNeg) (M 104 (a1 + (3 : Int32)).toNatClampNeg) M).bind fun q41 => some q41) else (if (M 104 a1.toNatClampNeg) = (1 : Int32) then (if (M 104 (a1 + (2 : Int32)).toNatClampNeg) < 0 ∨ 6 ≤ (M 104 (a1 + (2 : Int32)).toNatClampNeg).toNatClampNeg then none else (fd_138 (M 105 (M 104 (a1 + (2 : Int32)).toNatClampNeg).toNatClampNeg) M).bind fun q37 => (fd_137 (M 104 (a1 + (1 : Int32)).toNatClampNeg) q37.1 q37.2).bind fun q39 => some q39) else (if (M 104 a1.toNatClampNeg) = (2 : Int32) then (if (M 104 (a1 + (2 : Int32)).toNatClampNeg) < 0 ∨ 6 ≤ (M 104 (a1 + (2 : Int32)).toNatClampNeg).toNatClampNeg then none else if (M 104 (a1 + (2 : Int32)).toNatClampNeg) < 0 ∨ 6 ≤ (M 104 (a1 + (2 : Int32)).toNatClampNeg).toNatClampNeg then none else (fd_137 (M 104 (a1 + (1 : Int32)).toNatClampNeg) (M 105 (M 104 (a1 + (2 : Int32)).toNatClampNeg).toNatClampNeg) (ds_w M 105 (M 104 (a1 + (2 : Int32)).toNatClampNeg).toNatClampNeg (-1 : Int32))).bind fun q34 => some q34) else (if (M 104 a1.toNatClampNeg) = (3 : Int32) then ((fd_139 (M 104 (a1 + (2 : Int32)).toNatClampNeg) M).bind fun q24 => (fd_140 q24.1 (M 104 (a1 + (3 : Int32)).toNatClampNeg) q24.2).bind fun q26 => (fd_138 q26.1 q26.2).bind fun q28 => (fd_137 (M 104 (a1 + (1 : Int32)).toNatClampNeg) q28.1 q28.2).bind fun q30 => some q30) else (if (M 104 a1.toNatClampNeg) = (5 : Int32) then ((fd_139 (M 104 (a1 + (2 : Int32)).toNatClampNeg) M).bind fun q17 => (fd_142 q17.1 (M 104 (a1 + (3 : Int32)).toNatClampNeg) q17.2).bind fun q19 => if (M 104 (a1 + (4 : Int32)).toNatClampNeg) < 0 ∨ 6 ≤ (M 104 (a1 + (4 : Int32)).toNatClampNeg).toNatClampNeg then none else (fd_137 (M 104 (a1 + (1 : Int32)).toNatClampNeg) q19.1 (ds_w q19.2 105 (M 104 (a1 + (4 : Int32)).toNatClampNeg).toNatClampNeg (-1 : Int32))).bind fun q22 => some q22) else (if (M 104 a1.toNatClampNeg) = (8 : Int32) then (if (M 104 (a1 + (4 : Int32)).toNatClampNeg) < 0 ∨ 6 ≤ (M 104 (a1 + (4 : Int32)).toNatClampNeg).toNatClampNeg then none else some (ds_w M 105 (M 104 (a1 + (4 : Int32)).toNatClampNeg).toNatClampNeg (-1 : Int32))) else (if (M 104 a1.toNatClampNeg) = (9 : Int32) then (fd_136_213 1000 (0 : Int32) (ds_w M 96 14 (1 : Int32))) else (if (M 104 a1.toNatClampNeg) = (10 : Int32) then ((fd_143 (M 104 (a1 + (1 : Int32)).toNatClampNeg) (M 104 (a1 + (2 : Int32)).toNatClampNeg) M).bind fun q14 => some q14) else (some M))))))))
set_option maxRecDepth 50000 in
theorem te_136 {L : Nat} {xs : Nat → Int32} (a1 : Int32) (M : am_M) (q : am_M) (h : fd_136 a1 M = some q) : am_ev (tb_P L xs) 136 0 [some (.ref 96), some (.int a1), none, none, none, none, none, none] [] sh_A M (none, sh_A, q) := by
  unfold fd_136 at h
  refine am_ev_go (pc' := 5) (L' := [some (.ref 96), some (.int a1), none, none, none, none, none, none]) (st' := [.int a1, .ref 104]) (sh' := sh_A) (M' := M) 3 rfl ?_
  by_cases hg1 : a1 < 0 ∨ 300 ≤ a1.toNatClampNeg
  case pos => rw [if_pos hg1] at h; cases h
  rw [if_neg hg1] at h
  refine ev_iald rfl rfl hg1 ?_
  refine am_ev_go (pc' := 14) (L' := [some (.ref 96), some (.int a1), some (.int (M 104 a1.toNatClampNeg)), none, none, none, none, none]) (st' := [.int (a1 + (1 : Int32)), .ref 104]) (sh' := sh_A) (M' := M) 6 rfl ?_
  by_cases hg2 : (a1 + (1 : Int32)) < 0 ∨ 300 ≤ (a1 + (1 : Int32)).toNatClampNeg
  case pos => rw [if_pos hg2] at h; cases h
  rw [if_neg hg2] at h
  refine ev_iald rfl rfl hg2 ?_
  refine am_ev_go (pc' := 23) (L' := [some (.ref 96), some (.int a1), some (.int (M 104 a1.toNatClampNeg)), some (.int (M 104 (a1 + (1 : Int32)).toNatClampNeg)), none, none, none, none]) (st' := [.int (a1 + (2 : Int32)), .ref 104]) (sh' := sh_A) (M' := M) 6 rfl ?_
  by_cases hg3 : (a1 + (2 : Int32)) < 0 ∨ 300 ≤ (a1 + (2 : Int32)).toNatClampNeg
  case pos => rw [if_pos hg3] at h; cases h
  rw [if_neg hg3] at h
  refine ev_iald rfl rfl hg3 ?_
  refine am_ev_go (pc' := 33) (L' := [some (.ref 96), some (.int a1), some (.int (M 104 a1.toNatClampNeg)), some (.int (M 104 (a1 + (1 : Int32)).toNatClampNeg)), some (.int (M 104 (a1 + (2 : Int32)).toNatClampNeg)), none, none, none]) (st' := [.int (a1 + (3 : Int32)), .ref 104]) (sh' := sh_A) (M' := M) 6 rfl ?_
  by_cases hg4 : (a1 + (3 : Int32)) < 0 ∨ 300 ≤ (a1 + (3 : Int32)).toNatClampNeg
  case pos => rw [if_pos hg4] at h; cases h
  rw [if_neg hg4] at h
  refine ev_iald rfl rfl hg4 ?_
  refine am_ev_go (pc' := 43) (L' := [some (.ref 96), some (.int a1), some (.int (M 104 a1.toNatClampNeg)), some (.int (M 104 (a1 + (1 : Int32)).toNatClampNeg)), some (.int (M 104 (a1 + (2 : Int32)).toNatClampNeg)), some (.int (M 104 (a1 + (3 : Int32)).toNatClampNeg)), none, none]) (st' := [.int (a1 + (4 : Int32)), .ref 104]) (sh' := sh_A) (M' := M) 6 rfl ?_
  by_cases hg5 : (a1 + (4 : Int32)) < 0 ∨ 300 ≤ (a1 + (4 : Int32)).toNatClampNeg
  case pos => rw [if_pos hg5] at h; cases h
  rw [if_neg hg5] at h
  refine ev_iald rfl rfl hg5 ?_
  refine am_ev_go (pc' := (am_br .ne (M 104 a1.toNatClampNeg) 0 60 50)) (L' := [some (.ref 96), some (.int a1), some (.int (M 104 a1.toNatClampNeg)), some (.int (M 104 (a1 + (1 : Int32)).toNatClampNeg)), some (.int (M 104 (a1 + (2 : Int32)).toNatClampNeg)), some (.int (M 104 (a1 + (3 : Int32)).toNatClampNeg)), some (.int (M 104 (a1 + (4 : Int32)).toNatClampNeg)), none]) (st' := []) (sh' := sh_A) (M' := M) 3 rfl ?_
  refine ev_ne (fun hc6 => ?_) (fun hc6 => ?_)
  · rw [if_neg hc6] at h
    refine am_ev_go (pc' := (am_br .ne (M 104 a1.toNatClampNeg) (1 : Int32) 83 65)) (L' := [some (.ref 96), some (.int a1), some (.int (M 104 a1.toNatClampNeg)), some (.int (M 104 (a1 + (1 : Int32)).toNatClampNeg)), some (.int (M 104 (a1 + (2 : Int32)).toNatClampNeg)), some (.int (M 104 (a1 + (3 : Int32)).toNatClampNeg)), some (.int (M 104 (a1 + (4 : Int32)).toNatClampNeg)), none]) (st' := []) (sh' := sh_A) (M' := M) 3 rfl ?_
    refine ev_ne (fun hc7 => ?_) (fun hc7 => ?_)
    · rw [if_neg hc7] at h
      refine am_ev_go (pc' := (am_br .ne (M 104 a1.toNatClampNeg) (2 : Int32) 115 88)) (L' := [some (.ref 96), some (.int a1), some (.int (M 104 a1.toNatClampNeg)), some (.int (M 104 (a1 + (1 : Int32)).toNatClampNeg)), some (.int (M 104 (a1 + (2 : Int32)).toNatClampNeg)), some (.int (M 104 (a1 + (3 : Int32)).toNatClampNeg)), some (.int (M 104 (a1 + (4 : Int32)).toNatClampNeg)), none]) (st' := []) (sh' := sh_A) (M' := M) 3 rfl ?_
      refine ev_ne (fun hc8 => ?_) (fun hc8 => ?_)
      · rw [if_neg hc8] at h
        refine am_ev_go (pc' := (am_br .ne (M 104 a1.toNatClampNeg) (3 : Int32) 146 120)) (L' := [some (.ref 96), some (.int a1), some (.int (M 104 a1.toNatClampNeg)), some (.int (M 104 (a1 + (1 : Int32)).toNatClampNeg)), some (.int (M 104 (a1 + (2 : Int32)).toNatClampNeg)), some (.int (M 104 (a1 + (3 : Int32)).toNatClampNeg)), some (.int (M 104 (a1 + (4 : Int32)).toNatClampNeg)), none]) (st' := []) (sh' := sh_A) (M' := M) 3 rfl ?_
        refine ev_ne (fun hc9 => ?_) (fun hc9 => ?_)
        · rw [if_neg hc9] at h
          refine am_ev_go (pc' := (am_br .ne (M 104 a1.toNatClampNeg) (5 : Int32) 182 151)) (L' := [some (.ref 96), some (.int a1), some (.int (M 104 a1.toNatClampNeg)), some (.int (M 104 (a1 + (1 : Int32)).toNatClampNeg)), some (.int (M 104 (a1 + (2 : Int32)).toNatClampNeg)), some (.int (M 104 (a1 + (3 : Int32)).toNatClampNeg)), some (.int (M 104 (a1 + (4 : Int32)).toNatClampNeg)), none]) (st' := []) (sh' := sh_A) (M' := M) 3 rfl ?_
          refine ev_ne (fun hc10 => ?_) (fun hc10 => ?_)
          · rw [if_neg hc10] at h
            refine am_ev_go (pc' := (am_br .ne (M 104 a1.toNatClampNeg) (8 : Int32) 199 188)) (L' := [some (.ref 96), some (.int a1), some (.int (M 104 a1.toNatClampNeg)), some (.int (M 104 (a1 + (1 : Int32)).toNatClampNeg)), some (.int (M 104 (a1 + (2 : Int32)).toNatClampNeg)), some (.int (M 104 (a1 + (3 : Int32)).toNatClampNeg)), some (.int (M 104 (a1 + (4 : Int32)).toNatClampNeg)), none]) (st' := []) (sh' := sh_A) (M' := M) 3 rfl ?_
            refine ev_ne (fun hc11 => ?_) (fun hc11 => ?_)
            · rw [if_neg hc11] at h
              refine am_ev_go (pc' := (am_br .ne (M 104 a1.toNatClampNeg) (9 : Int32) 273 205)) (L' := [some (.ref 96), some (.int a1), some (.int (M 104 a1.toNatClampNeg)), some (.int (M 104 (a1 + (1 : Int32)).toNatClampNeg)), some (.int (M 104 (a1 + (2 : Int32)).toNatClampNeg)), some (.int (M 104 (a1 + (3 : Int32)).toNatClampNeg)), some (.int (M 104 (a1 + (4 : Int32)).toNatClampNeg)), none]) (st' := []) (sh' := sh_A) (M' := M) 3 rfl ?_
              refine ev_ne (fun hc12 => ?_) (fun hc12 => ?_)
              · rw [if_neg hc12] at h
                refine am_ev_go (pc' := (am_br .ne (M 104 a1.toNatClampNeg) (10 : Int32) 286 279)) (L' := [some (.ref 96), some (.int a1), some (.int (M 104 a1.toNatClampNeg)), some (.int (M 104 (a1 + (1 : Int32)).toNatClampNeg)), some (.int (M 104 (a1 + (2 : Int32)).toNatClampNeg)), some (.int (M 104 (a1 + (3 : Int32)).toNatClampNeg)), some (.int (M 104 (a1 + (4 : Int32)).toNatClampNeg)), none]) (st' := []) (sh' := sh_A) (M' := M) 3 rfl ?_
                refine ev_ne (fun hc13 => ?_) (fun hc13 => ?_)
                · rw [if_neg hc13] at h
                  cases h
                  exact am_ev_ret rfl
                · rw [if_pos hc13] at h
                  refine am_ev_go (pc' := 283) (L' := [some (.ref 96), some (.int a1), some (.int (M 104 a1.toNatClampNeg)), some (.int (M 104 (a1 + (1 : Int32)).toNatClampNeg)), some (.int (M 104 (a1 + (2 : Int32)).toNatClampNeg)), some (.int (M 104 (a1 + (3 : Int32)).toNatClampNeg)), some (.int (M 104 (a1 + (4 : Int32)).toNatClampNeg)), none]) (st' := [.int (M 104 (a1 + (2 : Int32)).toNatClampNeg), .int (M 104 (a1 + (1 : Int32)).toNatClampNeg), .ref 96]) (sh' := sh_A) (M' := M) 3 rfl ?_
                  obtain ⟨q14, hq15, h⟩ := Option.bind_eq_some_iff.mp h
                  refine am_ev_call (mj := 143) (as := [.ref 96, .int (M 104 (a1 + (1 : Int32)).toNatClampNeg), .int (M 104 (a1 + (2 : Int32)).toNatClampNeg)]) (rest := []) (rv := none) (sh' := sh_A) (M' := q14) rfl (te_143 _ _ _ _ hq15) ?_
                  show am_ev _ 136 286 [some (.ref 96), some (.int a1), some (.int (M 104 a1.toNatClampNeg)), some (.int (M 104 (a1 + (1 : Int32)).toNatClampNeg)), some (.int (M 104 (a1 + (2 : Int32)).toNatClampNeg)), some (.int (M 104 (a1 + (3 : Int32)).toNatClampNeg)), some (.int (M 104 (a1 + (4 : Int32)).toNatClampNeg)), none] [] sh_A q14 _
                  cases h
                  exact am_ev_ret rfl
              · rw [if_pos hc12] at h
                refine am_ev_go (pc' := 213) (L' := [some (.ref 96), some (.int a1), some (.int (M 104 a1.toNatClampNeg)), some (.int (M 104 (a1 + (1 : Int32)).toNatClampNeg)), some (.int (M 104 (a1 + (2 : Int32)).toNatClampNeg)), some (.int (M 104 (a1 + (3 : Int32)).toNatClampNeg)), some (.int (M 104 (a1 + (4 : Int32)).toNatClampNeg)), some (.int (0 : Int32))]) (st' := []) (sh' := sh_A) (M' := (ds_w M 96 14 (1 : Int32))) 5 rfl ?_
                exact te_136_213 1000 _ _ _ _ _ _ _ _ _ h
            · rw [if_pos hc11] at h
              refine am_ev_go (pc' := 195) (L' := [some (.ref 96), some (.int a1), some (.int (M 104 a1.toNatClampNeg)), some (.int (M 104 (a1 + (1 : Int32)).toNatClampNeg)), some (.int (M 104 (a1 + (2 : Int32)).toNatClampNeg)), some (.int (M 104 (a1 + (3 : Int32)).toNatClampNeg)), some (.int (M 104 (a1 + (4 : Int32)).toNatClampNeg)), none]) (st' := [.int (-1 : Int32), .int (M 104 (a1 + (4 : Int32)).toNatClampNeg), .ref 105]) (sh' := sh_A) (M' := M) 4 rfl ?_
              by_cases hg16 : (M 104 (a1 + (4 : Int32)).toNatClampNeg) < 0 ∨ 6 ≤ (M 104 (a1 + (4 : Int32)).toNatClampNeg).toNatClampNeg
              case pos => rw [if_pos hg16] at h; cases h
              rw [if_neg hg16] at h
              refine ev_iast rfl rfl hg16 ?_
              refine am_ev_go (pc' := 286) (L' := [some (.ref 96), some (.int a1), some (.int (M 104 a1.toNatClampNeg)), some (.int (M 104 (a1 + (1 : Int32)).toNatClampNeg)), some (.int (M 104 (a1 + (2 : Int32)).toNatClampNeg)), some (.int (M 104 (a1 + (3 : Int32)).toNatClampNeg)), some (.int (M 104 (a1 + (4 : Int32)).toNatClampNeg)), none]) (st' := []) (sh' := sh_A) (M' := (ds_w M 105 (M 104 (a1 + (4 : Int32)).toNatClampNeg).toNatClampNeg (-1 : Int32))) 1 rfl ?_
              cases h
              exact am_ev_ret rfl
          · rw [if_pos hc10] at h
            refine am_ev_go (pc' := 154) (L' := [some (.ref 96), some (.int a1), some (.int (M 104 a1.toNatClampNeg)), some (.int (M 104 (a1 + (1 : Int32)).toNatClampNeg)), some (.int (M 104 (a1 + (2 : Int32)).toNatClampNeg)), some (.int (M 104 (a1 + (3 : Int32)).toNatClampNeg)), some (.int (M 104 (a1 + (4 : Int32)).toNatClampNeg)), none]) (st' := [.int (M 104 (a1 + (2 : Int32)).toNatClampNeg), .ref 96]) (sh' := sh_A) (M' := M) 2 rfl ?_
            obtain ⟨q17, hq18, h⟩ := Option.bind_eq_some_iff.mp h
            refine am_ev_call (mj := 139) (as := [.ref 96, .int (M 104 (a1 + (2 : Int32)).toNatClampNeg)]) (rest := []) (rv := some (.int q17.1)) (sh' := sh_A) (M' := q17.2) rfl (te_139 _ _ _ hq18) ?_
            show am_ev _ 136 157 [some (.ref 96), some (.int a1), some (.int (M 104 a1.toNatClampNeg)), some (.int (M 104 (a1 + (1 : Int32)).toNatClampNeg)), some (.int (M 104 (a1 + (2 : Int32)).toNatClampNeg)), some (.int (M 104 (a1 + (3 : Int32)).toNatClampNeg)), some (.int (M 104 (a1 + (4 : Int32)).toNatClampNeg)), none] [.int q17.1] sh_A q17.2 _
            refine am_ev_go (pc' := 159) (L' := [some (.ref 96), some (.int a1), some (.int (M 104 a1.toNatClampNeg)), some (.int (M 104 (a1 + (1 : Int32)).toNatClampNeg)), some (.int (M 104 (a1 + (2 : Int32)).toNatClampNeg)), some (.int (M 104 (a1 + (3 : Int32)).toNatClampNeg)), some (.int (M 104 (a1 + (4 : Int32)).toNatClampNeg)), none]) (st' := [.int (M 104 (a1 + (3 : Int32)).toNatClampNeg), .int q17.1]) (sh' := sh_A) (M' := q17.2) 1 rfl ?_
            obtain ⟨q19, hq20, h⟩ := Option.bind_eq_some_iff.mp h
            refine am_ev_call (mj := 142) (as := [.int q17.1, .int (M 104 (a1 + (3 : Int32)).toNatClampNeg)]) (rest := []) (rv := some (.int q19.1)) (sh' := sh_A) (M' := q19.2) rfl (te_142 _ _ _ _ hq20) ?_
            show am_ev _ 136 162 [some (.ref 96), some (.int a1), some (.int (M 104 a1.toNatClampNeg)), some (.int (M 104 (a1 + (1 : Int32)).toNatClampNeg)), some (.int (M 104 (a1 + (2 : Int32)).toNatClampNeg)), some (.int (M 104 (a1 + (3 : Int32)).toNatClampNeg)), some (.int (M 104 (a1 + (4 : Int32)).toNatClampNeg)), none] [.int q19.1] sh_A q19.2 _
            refine am_ev_go (pc' := 171) (L' := [some (.ref 96), some (.int a1), some (.int (M 104 a1.toNatClampNeg)), some (.int (M 104 (a1 + (1 : Int32)).toNatClampNeg)), some (.int (M 104 (a1 + (2 : Int32)).toNatClampNeg)), some (.int (M 104 (a1 + (3 : Int32)).toNatClampNeg)), some (.int (M 104 (a1 + (4 : Int32)).toNatClampNeg)), some (.int q19.1)]) (st' := [.int (-1 : Int32), .int (M 104 (a1 + (4 : Int32)).toNatClampNeg), .ref 105]) (sh' := sh_A) (M' := q19.2) 5 rfl ?_
            by_cases hg21 : (M 104 (a1 + (4 : Int32)).toNatClampNeg) < 0 ∨ 6 ≤ (M 104 (a1 + (4 : Int32)).toNatClampNeg).toNatClampNeg
            case pos => rw [if_pos hg21] at h; cases h
            rw [if_neg hg21] at h
            refine ev_iast rfl rfl hg21 ?_
            refine am_ev_go (pc' := 176) (L' := [some (.ref 96), some (.int a1), some (.int (M 104 a1.toNatClampNeg)), some (.int (M 104 (a1 + (1 : Int32)).toNatClampNeg)), some (.int (M 104 (a1 + (2 : Int32)).toNatClampNeg)), some (.int (M 104 (a1 + (3 : Int32)).toNatClampNeg)), some (.int (M 104 (a1 + (4 : Int32)).toNatClampNeg)), some (.int q19.1)]) (st' := [.int q19.1, .int (M 104 (a1 + (1 : Int32)).toNatClampNeg), .ref 96]) (sh' := sh_A) (M' := (ds_w q19.2 105 (M 104 (a1 + (4 : Int32)).toNatClampNeg).toNatClampNeg (-1 : Int32))) 3 rfl ?_
            obtain ⟨q22, hq23, h⟩ := Option.bind_eq_some_iff.mp h
            refine am_ev_call (mj := 137) (as := [.ref 96, .int (M 104 (a1 + (1 : Int32)).toNatClampNeg), .int q19.1]) (rest := []) (rv := none) (sh' := sh_A) (M' := q22) rfl (te_137 _ _ _ _ hq23) ?_
            show am_ev _ 136 179 [some (.ref 96), some (.int a1), some (.int (M 104 a1.toNatClampNeg)), some (.int (M 104 (a1 + (1 : Int32)).toNatClampNeg)), some (.int (M 104 (a1 + (2 : Int32)).toNatClampNeg)), some (.int (M 104 (a1 + (3 : Int32)).toNatClampNeg)), some (.int (M 104 (a1 + (4 : Int32)).toNatClampNeg)), some (.int q19.1)] [] sh_A q22 _
            refine am_ev_go (pc' := 286) (L' := [some (.ref 96), some (.int a1), some (.int (M 104 a1.toNatClampNeg)), some (.int (M 104 (a1 + (1 : Int32)).toNatClampNeg)), some (.int (M 104 (a1 + (2 : Int32)).toNatClampNeg)), some (.int (M 104 (a1 + (3 : Int32)).toNatClampNeg)), some (.int (M 104 (a1 + (4 : Int32)).toNatClampNeg)), some (.int q19.1)]) (st' := []) (sh' := sh_A) (M' := q22) 1 rfl ?_
            cases h
            exact am_ev_ret rfl
        · rw [if_pos hc9] at h
          refine am_ev_go (pc' := 123) (L' := [some (.ref 96), some (.int a1), some (.int (M 104 a1.toNatClampNeg)), some (.int (M 104 (a1 + (1 : Int32)).toNatClampNeg)), some (.int (M 104 (a1 + (2 : Int32)).toNatClampNeg)), some (.int (M 104 (a1 + (3 : Int32)).toNatClampNeg)), some (.int (M 104 (a1 + (4 : Int32)).toNatClampNeg)), none]) (st' := [.int (M 104 (a1 + (2 : Int32)).toNatClampNeg), .ref 96]) (sh' := sh_A) (M' := M) 2 rfl ?_
          obtain ⟨q24, hq25, h⟩ := Option.bind_eq_some_iff.mp h
          refine am_ev_call (mj := 139) (as := [.ref 96, .int (M 104 (a1 + (2 : Int32)).toNatClampNeg)]) (rest := []) (rv := some (.int q24.1)) (sh' := sh_A) (M' := q24.2) rfl (te_139 _ _ _ hq25) ?_
          show am_ev _ 136 126 [some (.ref 96), some (.int a1), some (.int (M 104 a1.toNatClampNeg)), some (.int (M 104 (a1 + (1 : Int32)).toNatClampNeg)), some (.int (M 104 (a1 + (2 : Int32)).toNatClampNeg)), some (.int (M 104 (a1 + (3 : Int32)).toNatClampNeg)), some (.int (M 104 (a1 + (4 : Int32)).toNatClampNeg)), none] [.int q24.1] sh_A q24.2 _
          refine am_ev_go (pc' := 128) (L' := [some (.ref 96), some (.int a1), some (.int (M 104 a1.toNatClampNeg)), some (.int (M 104 (a1 + (1 : Int32)).toNatClampNeg)), some (.int (M 104 (a1 + (2 : Int32)).toNatClampNeg)), some (.int (M 104 (a1 + (3 : Int32)).toNatClampNeg)), some (.int (M 104 (a1 + (4 : Int32)).toNatClampNeg)), none]) (st' := [.int (M 104 (a1 + (3 : Int32)).toNatClampNeg), .int q24.1]) (sh' := sh_A) (M' := q24.2) 1 rfl ?_
          obtain ⟨q26, hq27, h⟩ := Option.bind_eq_some_iff.mp h
          refine am_ev_call (mj := 140) (as := [.int q24.1, .int (M 104 (a1 + (3 : Int32)).toNatClampNeg)]) (rest := []) (rv := some (.int q26.1)) (sh' := sh_A) (M' := q26.2) rfl (te_140 _ _ _ _ hq27) ?_
          show am_ev _ 136 131 [some (.ref 96), some (.int a1), some (.int (M 104 a1.toNatClampNeg)), some (.int (M 104 (a1 + (1 : Int32)).toNatClampNeg)), some (.int (M 104 (a1 + (2 : Int32)).toNatClampNeg)), some (.int (M 104 (a1 + (3 : Int32)).toNatClampNeg)), some (.int (M 104 (a1 + (4 : Int32)).toNatClampNeg)), none] [.int q26.1] sh_A q26.2 _
          refine am_ev_go (pc' := 137) (L' := [some (.ref 96), some (.int a1), some (.int (M 104 a1.toNatClampNeg)), some (.int (M 104 (a1 + (1 : Int32)).toNatClampNeg)), some (.int (M 104 (a1 + (2 : Int32)).toNatClampNeg)), some (.int (M 104 (a1 + (3 : Int32)).toNatClampNeg)), some (.int (M 104 (a1 + (4 : Int32)).toNatClampNeg)), some (.int q26.1)]) (st' := [.int q26.1, .int (M 104 (a1 + (1 : Int32)).toNatClampNeg), .ref 96]) (sh' := sh_A) (M' := q26.2) 4 rfl ?_
          obtain ⟨q28, hq29, h⟩ := Option.bind_eq_some_iff.mp h
          refine am_ev_call (mj := 138) (as := [.int q26.1]) (rest := [.int (M 104 (a1 + (1 : Int32)).toNatClampNeg), .ref 96]) (rv := some (.int q28.1)) (sh' := sh_A) (M' := q28.2) rfl (te_138 _ _ _ hq29) ?_
          show am_ev _ 136 140 [some (.ref 96), some (.int a1), some (.int (M 104 a1.toNatClampNeg)), some (.int (M 104 (a1 + (1 : Int32)).toNatClampNeg)), some (.int (M 104 (a1 + (2 : Int32)).toNatClampNeg)), some (.int (M 104 (a1 + (3 : Int32)).toNatClampNeg)), some (.int (M 104 (a1 + (4 : Int32)).toNatClampNeg)), some (.int q26.1)] [.int q28.1, .int (M 104 (a1 + (1 : Int32)).toNatClampNeg), .ref 96] sh_A q28.2 _
          obtain ⟨q30, hq31, h⟩ := Option.bind_eq_some_iff.mp h
          refine am_ev_call (mj := 137) (as := [.ref 96, .int (M 104 (a1 + (1 : Int32)).toNatClampNeg), .int q28.1]) (rest := []) (rv := none) (sh' := sh_A) (M' := q30) rfl (te_137 _ _ _ _ hq31) ?_
          show am_ev _ 136 143 [some (.ref 96), some (.int a1), some (.int (M 104 a1.toNatClampNeg)), some (.int (M 104 (a1 + (1 : Int32)).toNatClampNeg)), some (.int (M 104 (a1 + (2 : Int32)).toNatClampNeg)), some (.int (M 104 (a1 + (3 : Int32)).toNatClampNeg)), some (.int (M 104 (a1 + (4 : Int32)).toNatClampNeg)), some (.int q26.1)] [] sh_A q30 _
          refine am_ev_go (pc' := 286) (L' := [some (.ref 96), some (.int a1), some (.int (M 104 a1.toNatClampNeg)), some (.int (M 104 (a1 + (1 : Int32)).toNatClampNeg)), some (.int (M 104 (a1 + (2 : Int32)).toNatClampNeg)), some (.int (M 104 (a1 + (3 : Int32)).toNatClampNeg)), some (.int (M 104 (a1 + (4 : Int32)).toNatClampNeg)), some (.int q26.1)]) (st' := []) (sh' := sh_A) (M' := q30) 1 rfl ?_
          cases h
          exact am_ev_ret rfl
      · rw [if_pos hc8] at h
        refine am_ev_go (pc' := 94) (L' := [some (.ref 96), some (.int a1), some (.int (M 104 a1.toNatClampNeg)), some (.int (M 104 (a1 + (1 : Int32)).toNatClampNeg)), some (.int (M 104 (a1 + (2 : Int32)).toNatClampNeg)), some (.int (M 104 (a1 + (3 : Int32)).toNatClampNeg)), some (.int (M 104 (a1 + (4 : Int32)).toNatClampNeg)), none]) (st' := [.int (M 104 (a1 + (2 : Int32)).toNatClampNeg), .ref 105]) (sh' := sh_A) (M' := M) 3 rfl ?_
        by_cases hg32 : (M 104 (a1 + (2 : Int32)).toNatClampNeg) < 0 ∨ 6 ≤ (M 104 (a1 + (2 : Int32)).toNatClampNeg).toNatClampNeg
        case pos => rw [if_pos hg32] at h; cases h
        rw [if_neg hg32] at h
        refine ev_iald rfl rfl hg32 ?_
        refine am_ev_go (pc' := 104) (L' := [some (.ref 96), some (.int a1), some (.int (M 104 a1.toNatClampNeg)), some (.int (M 104 (a1 + (1 : Int32)).toNatClampNeg)), some (.int (M 104 (a1 + (2 : Int32)).toNatClampNeg)), some (.int (M 104 (a1 + (3 : Int32)).toNatClampNeg)), some (.int (M 104 (a1 + (4 : Int32)).toNatClampNeg)), some (.int (M 105 (M 104 (a1 + (2 : Int32)).toNatClampNeg).toNatClampNeg))]) (st' := [.int (-1 : Int32), .int (M 104 (a1 + (2 : Int32)).toNatClampNeg), .ref 105]) (sh' := sh_A) (M' := M) 5 rfl ?_
        by_cases hg33 : (M 104 (a1 + (2 : Int32)).toNatClampNeg) < 0 ∨ 6 ≤ (M 104 (a1 + (2 : Int32)).toNatClampNeg).toNatClampNeg
        case pos => rw [if_pos hg33] at h; cases h
        rw [if_neg hg33] at h
        refine ev_iast rfl rfl hg33 ?_
        refine am_ev_go (pc' := 109) (L' := [some (.ref 96), some (.int a1), some (.int (M 104 a1.toNatClampNeg)), some (.int (M 104 (a1 + (1 : Int32)).toNatClampNeg)), some (.int (M 104 (a1 + (2 : Int32)).toNatClampNeg)), some (.int (M 104 (a1 + (3 : Int32)).toNatClampNeg)), some (.int (M 104 (a1 + (4 : Int32)).toNatClampNeg)), some (.int (M 105 (M 104 (a1 + (2 : Int32)).toNatClampNeg).toNatClampNeg))]) (st' := [.int (M 105 (M 104 (a1 + (2 : Int32)).toNatClampNeg).toNatClampNeg), .int (M 104 (a1 + (1 : Int32)).toNatClampNeg), .ref 96]) (sh' := sh_A) (M' := (ds_w M 105 (M 104 (a1 + (2 : Int32)).toNatClampNeg).toNatClampNeg (-1 : Int32))) 3 rfl ?_
        obtain ⟨q34, hq35, h⟩ := Option.bind_eq_some_iff.mp h
        refine am_ev_call (mj := 137) (as := [.ref 96, .int (M 104 (a1 + (1 : Int32)).toNatClampNeg), .int (M 105 (M 104 (a1 + (2 : Int32)).toNatClampNeg).toNatClampNeg)]) (rest := []) (rv := none) (sh' := sh_A) (M' := q34) rfl (te_137 _ _ _ _ hq35) ?_
        show am_ev _ 136 112 [some (.ref 96), some (.int a1), some (.int (M 104 a1.toNatClampNeg)), some (.int (M 104 (a1 + (1 : Int32)).toNatClampNeg)), some (.int (M 104 (a1 + (2 : Int32)).toNatClampNeg)), some (.int (M 104 (a1 + (3 : Int32)).toNatClampNeg)), some (.int (M 104 (a1 + (4 : Int32)).toNatClampNeg)), some (.int (M 105 (M 104 (a1 + (2 : Int32)).toNatClampNeg).toNatClampNeg))] [] sh_A q34 _
        refine am_ev_go (pc' := 286) (L' := [some (.ref 96), some (.int a1), some (.int (M 104 a1.toNatClampNeg)), some (.int (M 104 (a1 + (1 : Int32)).toNatClampNeg)), some (.int (M 104 (a1 + (2 : Int32)).toNatClampNeg)), some (.int (M 104 (a1 + (3 : Int32)).toNatClampNeg)), some (.int (M 104 (a1 + (4 : Int32)).toNatClampNeg)), some (.int (M 105 (M 104 (a1 + (2 : Int32)).toNatClampNeg).toNatClampNeg))]) (st' := []) (sh' := sh_A) (M' := q34) 1 rfl ?_
        cases h
        exact am_ev_ret rfl
    · rw [if_pos hc7] at h
      refine am_ev_go (pc' := 73) (L' := [some (.ref 96), some (.int a1), some (.int (M 104 a1.toNatClampNeg)), some (.int (M 104 (a1 + (1 : Int32)).toNatClampNeg)), some (.int (M 104 (a1 + (2 : Int32)).toNatClampNeg)), some (.int (M 104 (a1 + (3 : Int32)).toNatClampNeg)), some (.int (M 104 (a1 + (4 : Int32)).toNatClampNeg)), none]) (st' := [.int (M 104 (a1 + (2 : Int32)).toNatClampNeg), .ref 105, .int (M 104 (a1 + (1 : Int32)).toNatClampNeg), .ref 96]) (sh' := sh_A) (M' := M) 5 rfl ?_
      by_cases hg36 : (M 104 (a1 + (2 : Int32)).toNatClampNeg) < 0 ∨ 6 ≤ (M 104 (a1 + (2 : Int32)).toNatClampNeg).toNatClampNeg
      case pos => rw [if_pos hg36] at h; cases h
      rw [if_neg hg36] at h
      refine ev_iald rfl rfl hg36 ?_
      obtain ⟨q37, hq38, h⟩ := Option.bind_eq_some_iff.mp h
      refine am_ev_call (mj := 138) (as := [.int (M 105 (M 104 (a1 + (2 : Int32)).toNatClampNeg).toNatClampNeg)]) (rest := [.int (M 104 (a1 + (1 : Int32)).toNatClampNeg), .ref 96]) (rv := some (.int q37.1)) (sh' := sh_A) (M' := q37.2) rfl (te_138 _ _ _ hq38) ?_
      show am_ev _ 136 77 [some (.ref 96), some (.int a1), some (.int (M 104 a1.toNatClampNeg)), some (.int (M 104 (a1 + (1 : Int32)).toNatClampNeg)), some (.int (M 104 (a1 + (2 : Int32)).toNatClampNeg)), some (.int (M 104 (a1 + (3 : Int32)).toNatClampNeg)), some (.int (M 104 (a1 + (4 : Int32)).toNatClampNeg)), none] [.int q37.1, .int (M 104 (a1 + (1 : Int32)).toNatClampNeg), .ref 96] sh_A q37.2 _
      obtain ⟨q39, hq40, h⟩ := Option.bind_eq_some_iff.mp h
      refine am_ev_call (mj := 137) (as := [.ref 96, .int (M 104 (a1 + (1 : Int32)).toNatClampNeg), .int q37.1]) (rest := []) (rv := none) (sh' := sh_A) (M' := q39) rfl (te_137 _ _ _ _ hq40) ?_
      show am_ev _ 136 80 [some (.ref 96), some (.int a1), some (.int (M 104 a1.toNatClampNeg)), some (.int (M 104 (a1 + (1 : Int32)).toNatClampNeg)), some (.int (M 104 (a1 + (2 : Int32)).toNatClampNeg)), some (.int (M 104 (a1 + (3 : Int32)).toNatClampNeg)), some (.int (M 104 (a1 + (4 : Int32)).toNatClampNeg)), none] [] sh_A q39 _
      refine am_ev_go (pc' := 286) (L' := [some (.ref 96), some (.int a1), some (.int (M 104 a1.toNatClampNeg)), some (.int (M 104 (a1 + (1 : Int32)).toNatClampNeg)), some (.int (M 104 (a1 + (2 : Int32)).toNatClampNeg)), some (.int (M 104 (a1 + (3 : Int32)).toNatClampNeg)), some (.int (M 104 (a1 + (4 : Int32)).toNatClampNeg)), none]) (st' := []) (sh' := sh_A) (M' := q39) 1 rfl ?_
      cases h
      exact am_ev_ret rfl
  · rw [if_pos hc6] at h
    refine am_ev_go (pc' := 54) (L' := [some (.ref 96), some (.int a1), some (.int (M 104 a1.toNatClampNeg)), some (.int (M 104 (a1 + (1 : Int32)).toNatClampNeg)), some (.int (M 104 (a1 + (2 : Int32)).toNatClampNeg)), some (.int (M 104 (a1 + (3 : Int32)).toNatClampNeg)), some (.int (M 104 (a1 + (4 : Int32)).toNatClampNeg)), none]) (st' := [.int (M 104 (a1 + (3 : Int32)).toNatClampNeg), .int (M 104 (a1 + (1 : Int32)).toNatClampNeg), .ref 96]) (sh' := sh_A) (M' := M) 3 rfl ?_
    obtain ⟨q41, hq42, h⟩ := Option.bind_eq_some_iff.mp h
    refine am_ev_call (mj := 137) (as := [.ref 96, .int (M 104 (a1 + (1 : Int32)).toNatClampNeg), .int (M 104 (a1 + (3 : Int32)).toNatClampNeg)]) (rest := []) (rv := none) (sh' := sh_A) (M' := q41) rfl (te_137 _ _ _ _ hq42) ?_
    show am_ev _ 136 57 [some (.ref 96), some (.int a1), some (.int (M 104 a1.toNatClampNeg)), some (.int (M 104 (a1 + (1 : Int32)).toNatClampNeg)), some (.int (M 104 (a1 + (2 : Int32)).toNatClampNeg)), some (.int (M 104 (a1 + (3 : Int32)).toNatClampNeg)), some (.int (M 104 (a1 + (4 : Int32)).toNatClampNeg)), none] [] sh_A q41 _
    refine am_ev_go (pc' := 286) (L' := [some (.ref 96), some (.int a1), some (.int (M 104 a1.toNatClampNeg)), some (.int (M 104 (a1 + (1 : Int32)).toNatClampNeg)), some (.int (M 104 (a1 + (2 : Int32)).toNatClampNeg)), some (.int (M 104 (a1 + (3 : Int32)).toNatClampNeg)), some (.int (M 104 (a1 + (4 : Int32)).toNatClampNeg)), none]) (st' := []) (sh' := sh_A) (M' := q41) 1 rfl ?_
    cases h
    exact am_ev_ret rfl
def fd_135_61 (f : Nat) : Int32 → Int32 → am_M → Option (am_M) := Nat.rec (motive := fun _ => Int32 → Int32 → am_M → Option (am_M)) (fun _ _ _ => none) (fun _ k61 => fun x1 x2 M => if x1 < 0 ∨ 6 ≤ x1.toNatClampNeg then none else if (M 103 x1.toNatClampNeg) ≤ x2 then (some M) else ((fd_136 (((50 : Int32) * x1) + ((5 : Int32) * x2)) M).bind fun q3 => k61 x1 (x2 + (1 : Int32)) q3)) f
set_option maxRecDepth 50000 in
theorem te_135_61 {L : Nat} {xs : Nat → Int32} : ∀ (f : Nat) (x1 : Int32) (x2 : Int32) (M : am_M) (q : am_M), fd_135_61 f x1 x2 M = some q → am_ev (tb_P L xs) 135 61 [some (.ref 96), some (.int x1), some (.int x2)] [] sh_A M (none, sh_A, q) := by
  intro f
  induction f with
  | zero => intro x1 x2 M q h; cases h
  | succ f hk61 =>
    intro x1 x2 M q h
    change (if x1 < 0 ∨ 6 ≤ x1.toNatClampNeg then none else if (M 103 x1.toNatClampNeg) ≤ x2 then (some M) else ((fd_136 (((50 : Int32) * x1) + ((5 : Int32) * x2)) M).bind fun q3 => (fd_135_61 f) x1 (x2 + (1 : Int32)) q3)) = some q at h
    refine am_ev_go (pc' := 67) (L' := [some (.ref 96), some (.int x1), some (.int x2)]) (st' := [.int x1, .ref 103, .int x2]) (sh' := sh_A) (M' := M) 4 rfl ?_
    by_cases hg1 : x1 < 0 ∨ 6 ≤ x1.toNatClampNeg
    case pos => rw [if_pos hg1] at h; cases h
    rw [if_neg hg1] at h
    refine ev_iald rfl rfl hg1 ?_
    refine am_ev_go (pc' := (am_br .ge x2 (M 103 x1.toNatClampNeg) 89 71)) (L' := [some (.ref 96), some (.int x1), some (.int x2)]) (st' := []) (sh' := sh_A) (M' := M) 1 rfl ?_
    refine ev_ge (fun hc2 => ?_) (fun hc2 => ?_)
    · rw [if_pos hc2] at h
      cases h
      exact am_ev_ret rfl
    · rw [if_neg hc2] at h
      refine am_ev_go (pc' := 80) (L' := [some (.ref 96), some (.int x1), some (.int x2)]) (st' := [.int (((50 : Int32) * x1) + ((5 : Int32) * x2)), .ref 96]) (sh' := sh_A) (M' := M) 8 rfl ?_
      obtain ⟨q3, hq4, h⟩ := Option.bind_eq_some_iff.mp h
      refine am_ev_call (mj := 136) (as := [.ref 96, .int (((50 : Int32) * x1) + ((5 : Int32) * x2))]) (rest := []) (rv := none) (sh' := sh_A) (M' := q3) rfl (te_136 _ _ _ hq4) ?_
      show am_ev _ 135 83 [some (.ref 96), some (.int x1), some (.int x2)] [] sh_A q3 _
      refine am_ev_go (pc' := 61) (L' := [some (.ref 96), some (.int x1), some (.int (x2 + (1 : Int32)))]) (st' := []) (sh' := sh_A) (M' := q3) 2 rfl ?_
      exact hk61 _ _ _ _ h
def fd_135_2 (f : Nat) : Int32 → am_M → Option (am_M) := Nat.rec (motive := fun _ => Int32 → am_M → Option (am_M)) (fun _ _ => none) (fun _ k2 => fun x1 M => if (6 : Int32) ≤ x1 then (if (((ds_w M 96 14 (0 : Int32)) 96 6) - (1 : Int32)) < 0 ∨ 6 ≤ (((ds_w M 96 14 (0 : Int32)) 96 6) - (1 : Int32)).toNatClampNeg then none else if (0 : Int32) < 0 ∨ 6 ≤ (0 : Int32).toNatClampNeg then none else fd_135_61 1000 (((ds_w M 96 14 (0 : Int32)) 96 6) - (1 : Int32)) (0 : Int32) (ds_w (ds_w M 96 14 (0 : Int32)) 105 (0 : Int32).toNatClampNeg (M 102 (((ds_w M 96 14 (0 : Int32)) 96 6) - (1 : Int32)).toNatClampNeg))) else (if x1 < 0 ∨ 6 ≤ x1.toNatClampNeg then none else if x1 < 0 ∨ 6 ≤ x1.toNatClampNeg then none else if x1 < 0 ∨ 6 ≤ x1.toNatClampNeg then none else k2 (x1 + (1 : Int32)) (ds_w (ds_w (ds_w M 105 x1.toNatClampNeg (-1 : Int32)) 106 x1.toNatClampNeg ((0 : Int32) &&& 1)) 107 x1.toNatClampNeg ((0 : Int32) &&& 1)))) f
set_option maxRecDepth 50000 in
theorem te_135_2 {L : Nat} {xs : Nat → Int32} : ∀ (f : Nat) (x1 : Int32) (M : am_M) (q : am_M) (d2 : Option Value), fd_135_2 f x1 M = some q → am_ev (tb_P L xs) 135 2 [some (.ref 96), some (.int x1), d2] [] sh_A M (none, sh_A, q) := by
  intro f
  induction f with
  | zero => intro x1 M q d2 h; cases h
  | succ f hk2 =>
    intro x1 M q d2 h
    change (if (6 : Int32) ≤ x1 then (if (((ds_w M 96 14 (0 : Int32)) 96 6) - (1 : Int32)) < 0 ∨ 6 ≤ (((ds_w M 96 14 (0 : Int32)) 96 6) - (1 : Int32)).toNatClampNeg then none else if (0 : Int32) < 0 ∨ 6 ≤ (0 : Int32).toNatClampNeg then none else fd_135_61 1000 (((ds_w M 96 14 (0 : Int32)) 96 6) - (1 : Int32)) (0 : Int32) (ds_w (ds_w M 96 14 (0 : Int32)) 105 (0 : Int32).toNatClampNeg (M 102 (((ds_w M 96 14 (0 : Int32)) 96 6) - (1 : Int32)).toNatClampNeg))) else (if x1 < 0 ∨ 6 ≤ x1.toNatClampNeg then none else if x1 < 0 ∨ 6 ≤ x1.toNatClampNeg then none else if x1 < 0 ∨ 6 ≤ x1.toNatClampNeg then none else (fd_135_2 f) (x1 + (1 : Int32)) (ds_w (ds_w (ds_w M 105 x1.toNatClampNeg (-1 : Int32)) 106 x1.toNatClampNeg ((0 : Int32) &&& 1)) 107 x1.toNatClampNeg ((0 : Int32) &&& 1)))) = some q at h
    refine am_ev_go (pc' := (am_br .ge x1 (6 : Int32) 35 8)) (L' := [some (.ref 96), some (.int x1), d2]) (st' := []) (sh' := sh_A) (M' := M) 3 rfl ?_
    refine ev_ge (fun hc1 => ?_) (fun hc1 => ?_)
    · rw [if_pos hc1] at h
      refine am_ev_go (pc' := 57) (L' := [some (.ref 96), some (.int (((ds_w M 96 14 (0 : Int32)) 96 6) - (1 : Int32))), d2]) (st' := [.int (((ds_w M 96 14 (0 : Int32)) 96 6) - (1 : Int32)), .ref 102, .int (0 : Int32), .ref 105]) (sh' := sh_A) (M' := (ds_w M 96 14 (0 : Int32))) 14 rfl ?_
      by_cases hg2 : (((ds_w M 96 14 (0 : Int32)) 96 6) - (1 : Int32)) < 0 ∨ 6 ≤ (((ds_w M 96 14 (0 : Int32)) 96 6) - (1 : Int32)).toNatClampNeg
      case pos => rw [if_pos hg2] at h; cases h
      rw [if_neg hg2] at h
      refine ev_iald rfl rfl hg2 ?_
      by_cases hg3 : (0 : Int32) < 0 ∨ 6 ≤ (0 : Int32).toNatClampNeg
      case pos => rw [if_pos hg3] at h; cases h
      rw [if_neg hg3] at h
      refine ev_iast rfl rfl hg3 ?_
      refine am_ev_go (pc' := 61) (L' := [some (.ref 96), some (.int (((ds_w M 96 14 (0 : Int32)) 96 6) - (1 : Int32))), some (.int (0 : Int32))]) (st' := []) (sh' := sh_A) (M' := (ds_w (ds_w M 96 14 (0 : Int32)) 105 (0 : Int32).toNatClampNeg (M 102 (((ds_w M 96 14 (0 : Int32)) 96 6) - (1 : Int32)).toNatClampNeg))) 2 rfl ?_
      exact te_135_61 1000 _ _ _ _ h
    · rw [if_neg hc1] at h
      refine am_ev_go (pc' := 14) (L' := [some (.ref 96), some (.int x1), d2]) (st' := [.int (-1 : Int32), .int x1, .ref 105]) (sh' := sh_A) (M' := M) 4 rfl ?_
      by_cases hg4 : x1 < 0 ∨ 6 ≤ x1.toNatClampNeg
      case pos => rw [if_pos hg4] at h; cases h
      rw [if_neg hg4] at h
      refine ev_iast rfl rfl hg4 ?_
      refine am_ev_go (pc' := 21) (L' := [some (.ref 96), some (.int x1), d2]) (st' := [.int (0 : Int32), .int x1, .ref 106]) (sh' := sh_A) (M' := (ds_w M 105 x1.toNatClampNeg (-1 : Int32))) 4 rfl ?_
      by_cases hg5 : x1 < 0 ∨ 6 ≤ x1.toNatClampNeg
      case pos => rw [if_pos hg5] at h; cases h
      rw [if_neg hg5] at h
      refine ev_bast rfl rfl hg5 ?_
      refine am_ev_go (pc' := 28) (L' := [some (.ref 96), some (.int x1), d2]) (st' := [.int (0 : Int32), .int x1, .ref 107]) (sh' := sh_A) (M' := (ds_w (ds_w M 105 x1.toNatClampNeg (-1 : Int32)) 106 x1.toNatClampNeg ((0 : Int32) &&& 1))) 4 rfl ?_
      by_cases hg6 : x1 < 0 ∨ 6 ≤ x1.toNatClampNeg
      case pos => rw [if_pos hg6] at h; cases h
      rw [if_neg hg6] at h
      refine ev_bast rfl rfl hg6 ?_
      refine am_ev_go (pc' := 2) (L' := [some (.ref 96), some (.int (x1 + (1 : Int32))), d2]) (st' := []) (sh' := sh_A) (M' := (ds_w (ds_w (ds_w M 105 x1.toNatClampNeg (-1 : Int32)) 106 x1.toNatClampNeg ((0 : Int32) &&& 1)) 107 x1.toNatClampNeg ((0 : Int32) &&& 1))) 2 rfl ?_
      exact hk2 _ _ _ _ h
/-- CountedActorsModel.replay()V -/
def fd_135 (M : am_M) : Option (am_M) := fd_135_2 1000 (0 : Int32) M
set_option maxRecDepth 50000 in
theorem te_135 {L : Nat} {xs : Nat → Int32} (M : am_M) (q : am_M) (h : fd_135  M = some q) : am_ev (tb_P L xs) 135 0 [some (.ref 96), none, none] [] sh_A M (none, sh_A, q) := by
  unfold fd_135 at h
  refine am_ev_go (pc' := 2) (L' := [some (.ref 96), some (.int (0 : Int32)), none]) (st' := []) (sh' := sh_A) (M' := M) 2 rfl ?_
  exact te_135_2 1000 _ _ _ _ h
/-- CountedActorsModel.end()Z -/
def fd_134 (M : am_M) : Option (Int32 × am_M) := if (M 96 7) = (0 : Int32) then (some ((0 : Int32), M)) else ((fd_135 M).bind fun q2 => if (q2 96 14) = (0 : Int32) then (some ((1 : Int32), (ds_w q2 96 7 (0 : Int32)))) else (some ((0 : Int32), q2)))
set_option maxRecDepth 50000 in
theorem te_134 {L : Nat} {xs : Nat → Int32} (M : am_M) (q : Int32 × am_M) (h : fd_134  M = some q) : am_ev (tb_P L xs) 134 0 [some (.ref 96)] [] sh_A M (some (.int q.1), sh_A, q.2) := by
  unfold fd_134 at h
  refine am_ev_go (pc' := (am_br .ne (M 96 7) 0 9 7)) (L' := [some (.ref 96)]) (st' := []) (sh' := sh_A) (M' := M) 3 rfl ?_
  refine ev_ne (fun hc1 => ?_) (fun hc1 => ?_)
  · rw [if_neg hc1] at h
    refine am_ev_go (pc' := 10) (L' := [some (.ref 96)]) (st' := [.ref 96]) (sh' := sh_A) (M' := M) 1 rfl ?_
    obtain ⟨q2, hq3, h⟩ := Option.bind_eq_some_iff.mp h
    refine am_ev_call (mj := 135) (as := [.ref 96]) (rest := []) (rv := none) (sh' := sh_A) (M' := q2) rfl (te_135 _ _ hq3) ?_
    show am_ev _ 134 13 [some (.ref 96)] [] sh_A q2 _
    refine am_ev_go (pc' := (am_br .eq (q2 96 14) 0 22 20)) (L' := [some (.ref 96)]) (st' := []) (sh' := sh_A) (M' := q2) 3 rfl ?_
    refine ev_eq (fun hc4 => ?_) (fun hc4 => ?_)
    · rw [if_pos hc4] at h
      refine am_ev_go (pc' := 28) (L' := [some (.ref 96)]) (st' := [.int (1 : Int32)]) (sh' := sh_A) (M' := (ds_w q2 96 7 (0 : Int32))) 4 rfl ?_
      cases h
      exact am_ev_ret rfl
    · rw [if_neg hc4] at h
      refine am_ev_go (pc' := 21) (L' := [some (.ref 96)]) (st' := [.int (0 : Int32)]) (sh' := sh_A) (M' := q2) 1 rfl ?_
      cases h
      exact am_ev_ret rfl
  · rw [if_pos hc1] at h
    refine am_ev_go (pc' := 8) (L' := [some (.ref 96)]) (st' := [.int (0 : Int32)]) (sh' := sh_A) (M' := M) 1 rfl ?_
    cases h
    exact am_ev_ret rfl
/-- CountedActorsModel.below(II)Z -/
def fd_148 (a0 : Int32) (a1 : Int32) (M : am_M) : Option (Int32 × am_M) := if a0 < (0 : Int32) then (some ((0 : Int32), M)) else (if a1 ≤ a0 then (some ((0 : Int32), M)) else (some ((1 : Int32), M)))
set_option maxRecDepth 50000 in
theorem te_148 {L : Nat} {xs : Nat → Int32} (a0 : Int32) (a1 : Int32) (M : am_M) (q : Int32 × am_M) (h : fd_148 a0 a1 M = some q) : am_ev (tb_P L xs) 148 0 [some (.int a0), some (.int a1)] [] sh_A M (some (.int q.1), sh_A, q.2) := by
  unfold fd_148 at h
  refine am_ev_go (pc' := (am_br .lt a0 0 13 4)) (L' := [some (.int a0), some (.int a1)]) (st' := []) (sh' := sh_A) (M' := M) 2 rfl ?_
  refine ev_lt (fun hc1 => ?_) (fun hc1 => ?_)
  · rw [if_pos hc1] at h
    refine am_ev_go (pc' := 14) (L' := [some (.int a0), some (.int a1)]) (st' := [.int (0 : Int32)]) (sh' := sh_A) (M' := M) 1 rfl ?_
    cases h
    exact am_ev_ret rfl
  · rw [if_neg hc1] at h
    refine am_ev_go (pc' := (am_br .ge a0 a1 13 9)) (L' := [some (.int a0), some (.int a1)]) (st' := []) (sh' := sh_A) (M' := M) 3 rfl ?_
    refine ev_ge (fun hc2 => ?_) (fun hc2 => ?_)
    · rw [if_pos hc2] at h
      refine am_ev_go (pc' := 14) (L' := [some (.int a0), some (.int a1)]) (st' := [.int (0 : Int32)]) (sh' := sh_A) (M' := M) 1 rfl ?_
      cases h
      exact am_ev_ret rfl
    · rw [if_neg hc2] at h
      refine am_ev_go (pc' := 14) (L' := [some (.int a0), some (.int a1)]) (st' := [.int (1 : Int32)]) (sh' := sh_A) (M' := M) 2 rfl ?_
      cases h
      exact am_ev_ret rfl
def fd_149_16 (M : am_M) : Option (Int32 × am_M) := some ((1 : Int32), M)
set_option maxRecDepth 50000 in
theorem te_149_16 {L : Nat} {xs : Nat → Int32} (M : am_M) (q : Int32 × am_M) (d0 : Option Value) (h : fd_149_16  M = some q) : am_ev (tb_P L xs) 149 16 [d0] [] sh_A M (some (.int q.1), sh_A, q.2) := by
  unfold fd_149_16 at h
  refine am_ev_go (pc' := 21) (L' := [d0]) (st' := [.int (1 : Int32)]) (sh' := sh_A) (M' := M) 2 rfl ?_
  cases h
  exact am_ev_ret rfl
/-- CountedActorsModel.usesZ(I)Z -/
def fd_149 (a0 : Int32) (M : am_M) : Option (Int32 × am_M) := if a0 = (4 : Int32) then (fd_149_16 M) else (if a0 = (5 : Int32) then (fd_149_16 M) else (if a0 = (8 : Int32) then (fd_149_16 M) else (some ((0 : Int32), M))))
set_option maxRecDepth 50000 in
theorem te_149 {L : Nat} {xs : Nat → Int32} (a0 : Int32) (M : am_M) (q : Int32 × am_M) (h : fd_149 a0 M = some q) : am_ev (tb_P L xs) 149 0 [some (.int a0)] [] sh_A M (some (.int q.1), sh_A, q.2) := by
  unfold fd_149 at h
  refine am_ev_go (pc' := (am_br .eq a0 (4 : Int32) 16 5)) (L' := [some (.int a0)]) (st' := []) (sh' := sh_A) (M' := M) 3 rfl ?_
  refine ev_eq (fun hc1 => ?_) (fun hc1 => ?_)
  · rw [if_pos hc1] at h
    exact te_149_16 _ _ _ h
  · rw [if_neg hc1] at h
    refine am_ev_go (pc' := (am_br .eq a0 (5 : Int32) 16 10)) (L' := [some (.int a0)]) (st' := []) (sh' := sh_A) (M' := M) 3 rfl ?_
    refine ev_eq (fun hc2 => ?_) (fun hc2 => ?_)
    · rw [if_pos hc2] at h
      exact te_149_16 _ _ _ h
    · rw [if_neg hc2] at h
      refine am_ev_go (pc' := (am_br .ne a0 (8 : Int32) 20 16)) (L' := [some (.int a0)]) (st' := []) (sh' := sh_A) (M' := M) 3 rfl ?_
      refine ev_ne (fun hc3 => ?_) (fun hc3 => ?_)
      · rw [if_neg hc3] at h
        refine am_ev_go (pc' := 21) (L' := [some (.int a0)]) (st' := [.int (0 : Int32)]) (sh' := sh_A) (M' := M) 1 rfl ?_
        cases h
        exact am_ev_ret rfl
      · rw [if_pos hc3] at h
        exact te_149_16 _ _ _ h
def fd_150_17 (M : am_M) : Option (Int32 × am_M) := some ((1 : Int32), M)
set_option maxRecDepth 50000 in
theorem te_150_17 {L : Nat} {xs : Nat → Int32} (M : am_M) (q : Int32 × am_M) (d0 : Option Value) (h : fd_150_17  M = some q) : am_ev (tb_P L xs) 150 17 [d0] [] sh_A M (some (.int q.1), sh_A, q.2) := by
  unfold fd_150_17 at h
  refine am_ev_go (pc' := 22) (L' := [d0]) (st' := [.int (1 : Int32)]) (sh' := sh_A) (M' := M) 2 rfl ?_
  cases h
  exact am_ev_ret rfl
def fd_150_11 (x0 : Int32) (M : am_M) : Option (Int32 × am_M) := if x0 = (10 : Int32) then (fd_150_17 M) else (some ((0 : Int32), M))
set_option maxRecDepth 50000 in
theorem te_150_11 {L : Nat} {xs : Nat → Int32} (x0 : Int32) (M : am_M) (q : Int32 × am_M) (h : fd_150_11 x0 M = some q) : am_ev (tb_P L xs) 150 11 [some (.int x0)] [] sh_A M (some (.int q.1), sh_A, q.2) := by
  unfold fd_150_11 at h
  refine am_ev_go (pc' := (am_br .ne x0 (10 : Int32) 21 17)) (L' := [some (.int x0)]) (st' := []) (sh' := sh_A) (M' := M) 3 rfl ?_
  refine ev_ne (fun hc1 => ?_) (fun hc1 => ?_)
  · rw [if_neg hc1] at h
    refine am_ev_go (pc' := 22) (L' := [some (.int x0)]) (st' := [.int (0 : Int32)]) (sh' := sh_A) (M' := M) 1 rfl ?_
    cases h
    exact am_ev_ret rfl
  · rw [if_pos hc1] at h
    exact te_150_17 _ _ _ h
/-- CountedActorsModel.usesY(I)Z -/
def fd_150 (a0 : Int32) (M : am_M) : Option (Int32 × am_M) := if a0 < (1 : Int32) then (fd_150_11 a0 M) else (if a0 ≤ (7 : Int32) then (fd_150_17 M) else (fd_150_11 a0 M))
set_option maxRecDepth 50000 in
theorem te_150 {L : Nat} {xs : Nat → Int32} (a0 : Int32) (M : am_M) (q : Int32 × am_M) (h : fd_150 a0 M = some q) : am_ev (tb_P L xs) 150 0 [some (.int a0)] [] sh_A M (some (.int q.1), sh_A, q.2) := by
  unfold fd_150 at h
  refine am_ev_go (pc' := (am_br .lt a0 (1 : Int32) 11 5)) (L' := [some (.int a0)]) (st' := []) (sh' := sh_A) (M' := M) 3 rfl ?_
  refine ev_lt (fun hc1 => ?_) (fun hc1 => ?_)
  · rw [if_pos hc1] at h
    exact te_150_11 _ _ _ h
  · rw [if_neg hc1] at h
    refine am_ev_go (pc' := (am_br .le a0 (7 : Int32) 17 11)) (L' := [some (.int a0)]) (st' := []) (sh' := sh_A) (M' := M) 3 rfl ?_
    refine ev_le (fun hc2 => ?_) (fun hc2 => ?_)
    · rw [if_pos hc2] at h
      exact te_150_17 _ _ _ h
    · rw [if_neg hc2] at h
      exact te_150_11 _ _ _ h
def fd_147_161 (M : am_M) : Option (Int32 × am_M) := some ((1 : Int32), M)
set_option maxRecDepth 50000 in
theorem te_147_161 {L : Nat} {xs : Nat → Int32} (M : am_M) (q : Int32 × am_M) (d0 d1 d2 d3 d4 d5 d6 d7 : Option Value) (h : fd_147_161  M = some q) : am_ev (tb_P L xs) 147 161 [d0, d1, d2, d3, d4, d5, d6, d7] [] sh_A M (some (.int q.1), sh_A, q.2) := by
  unfold fd_147_161 at h
  refine am_ev_go (pc' := 166) (L' := [d0, d1, d2, d3, d4, d5, d6, d7]) (st' := [.int (1 : Int32)]) (sh' := sh_A) (M' := M) 2 rfl ?_
  cases h
  exact am_ev_ret rfl
def fd_147_136 (x1 : Int32) (x2 : Int32) (x3 : Int32) (M : am_M) : Option (Int32 × am_M) := if x1 = (8 : Int32) then ((fd_148 x2 (4 : Int32) M).bind fun q2 => if q2.1 = (0 : Int32) then (some ((0 : Int32), q2.2)) else ((fd_148 x3 (q2.2 96 6) q2.2).bind fun q5 => if q5.1 = (0 : Int32) then (some ((0 : Int32), q5.2)) else (fd_147_161 q5.2))) else (fd_147_161 M)
set_option maxRecDepth 50000 in
theorem te_147_136 {L : Nat} {xs : Nat → Int32} (x1 : Int32) (x2 : Int32) (x3 : Int32) (M : am_M) (q : Int32 × am_M) (d4 d5 d6 d7 : Option Value) (h : fd_147_136 x1 x2 x3 M = some q) : am_ev (tb_P L xs) 147 136 [some (.ref 96), some (.int x1), some (.int x2), some (.int x3), d4, d5, d6, d7] [] sh_A M (some (.int q.1), sh_A, q.2) := by
  unfold fd_147_136 at h
  refine am_ev_go (pc' := (am_br .ne x1 (8 : Int32) 161 142)) (L' := [some (.ref 96), some (.int x1), some (.int x2), some (.int x3), d4, d5, d6, d7]) (st' := []) (sh' := sh_A) (M' := M) 3 rfl ?_
  refine ev_ne (fun hc1 => ?_) (fun hc1 => ?_)
  · rw [if_neg hc1] at h
    exact te_147_161 _ _ _ _ _ _ _ _ _ _ h
  · rw [if_pos hc1] at h
    refine am_ev_go (pc' := 144) (L' := [some (.ref 96), some (.int x1), some (.int x2), some (.int x3), d4, d5, d6, d7]) (st' := [.int (4 : Int32), .int x2]) (sh' := sh_A) (M' := M) 2 rfl ?_
    obtain ⟨q2, hq3, h⟩ := Option.bind_eq_some_iff.mp h
    refine am_ev_call (mj := 148) (as := [.int x2, .int (4 : Int32)]) (rest := []) (rv := some (.int q2.1)) (sh' := sh_A) (M' := q2.2) rfl (te_148 _ _ _ _ hq3) ?_
    show am_ev _ 147 147 [some (.ref 96), some (.int x1), some (.int x2), some (.int x3), d4, d5, d6, d7] [.int q2.1] sh_A q2.2 _
    refine am_ev_go (pc' := (am_br .eq q2.1 0 165 150)) (L' := [some (.ref 96), some (.int x1), some (.int x2), some (.int x3), d4, d5, d6, d7]) (st' := []) (sh' := sh_A) (M' := q2.2) 1 rfl ?_
    refine ev_eq (fun hc4 => ?_) (fun hc4 => ?_)
    · rw [if_pos hc4] at h
      refine am_ev_go (pc' := 166) (L' := [some (.ref 96), some (.int x1), some (.int x2), some (.int x3), d4, d5, d6, d7]) (st' := [.int (0 : Int32)]) (sh' := sh_A) (M' := q2.2) 1 rfl ?_
      cases h
      exact am_ev_ret rfl
    · rw [if_neg hc4] at h
      refine am_ev_go (pc' := 155) (L' := [some (.ref 96), some (.int x1), some (.int x2), some (.int x3), d4, d5, d6, d7]) (st' := [.int (q2.2 96 6), .int x3]) (sh' := sh_A) (M' := q2.2) 3 rfl ?_
      obtain ⟨q5, hq6, h⟩ := Option.bind_eq_some_iff.mp h
      refine am_ev_call (mj := 148) (as := [.int x3, .int (q2.2 96 6)]) (rest := []) (rv := some (.int q5.1)) (sh' := sh_A) (M' := q5.2) rfl (te_148 _ _ _ _ hq6) ?_
      show am_ev _ 147 158 [some (.ref 96), some (.int x1), some (.int x2), some (.int x3), d4, d5, d6, d7] [.int q5.1] sh_A q5.2 _
      refine am_ev_go (pc' := (am_br .eq q5.1 0 165 161)) (L' := [some (.ref 96), some (.int x1), some (.int x2), some (.int x3), d4, d5, d6, d7]) (st' := []) (sh' := sh_A) (M' := q5.2) 1 rfl ?_
      refine ev_eq (fun hc7 => ?_) (fun hc7 => ?_)
      · rw [if_pos hc7] at h
        refine am_ev_go (pc' := 166) (L' := [some (.ref 96), some (.int x1), some (.int x2), some (.int x3), d4, d5, d6, d7]) (st' := [.int (0 : Int32)]) (sh' := sh_A) (M' := q5.2) 1 rfl ?_
        cases h
        exact am_ev_ret rfl
      · rw [if_neg hc7] at h
        exact te_147_161 _ _ _ _ _ _ _ _ _ _ h
def fd_147_128 (x1 : Int32) (x2 : Int32) (x3 : Int32) (y0 : Int32) (y1 : Int32) (M : am_M) : Option (Int32 × am_M) := (fd_148 y0 y1 M).bind fun q1 => if q1.1 = (0 : Int32) then (some ((0 : Int32), q1.2)) else (fd_147_136 x1 x2 x3 q1.2)
set_option maxRecDepth 50000 in
theorem te_147_128 {L : Nat} {xs : Nat → Int32} (x1 : Int32) (x2 : Int32) (x3 : Int32) (y0 : Int32) (y1 : Int32) (M : am_M) (q : Int32 × am_M) (d4 d5 d6 d7 : Option Value) (h : fd_147_128 x1 x2 x3 y0 y1 M = some q) : am_ev (tb_P L xs) 147 128 [some (.ref 96), some (.int x1), some (.int x2), some (.int x3), d4, d5, d6, d7] [.int y1, .int y0] sh_A M (some (.int q.1), sh_A, q.2) := by
  unfold fd_147_128 at h
  obtain ⟨q1, hq2, h⟩ := Option.bind_eq_some_iff.mp h
  refine am_ev_call (mj := 148) (as := [.int y0, .int y1]) (rest := []) (rv := some (.int q1.1)) (sh' := sh_A) (M' := q1.2) rfl (te_148 _ _ _ _ hq2) ?_
  show am_ev _ 147 131 [some (.ref 96), some (.int x1), some (.int x2), some (.int x3), d4, d5, d6, d7] [.int q1.1] sh_A q1.2 _
  refine am_ev_go (pc' := (am_br .ne q1.1 0 136 134)) (L' := [some (.ref 96), some (.int x1), some (.int x2), some (.int x3), d4, d5, d6, d7]) (st' := []) (sh' := sh_A) (M' := q1.2) 1 rfl ?_
  refine ev_ne (fun hc3 => ?_) (fun hc3 => ?_)
  · rw [if_neg hc3] at h
    exact te_147_136 _ _ _ _ _ _ _ _ _ h
  · rw [if_pos hc3] at h
    refine am_ev_go (pc' := 135) (L' := [some (.ref 96), some (.int x1), some (.int x2), some (.int x3), d4, d5, d6, d7]) (st' := [.int (0 : Int32)]) (sh' := sh_A) (M' := q1.2) 1 rfl ?_
    cases h
    exact am_ev_ret rfl
def fd_147_126 (x1 : Int32) (x2 : Int32) (x3 : Int32) (y0 : Int32) (M : am_M) : Option (Int32 × am_M) := fd_147_128 x1 x2 x3 y0 (6 : Int32) M
set_option maxRecDepth 50000 in
theorem te_147_126 {L : Nat} {xs : Nat → Int32} (x1 : Int32) (x2 : Int32) (x3 : Int32) (y0 : Int32) (M : am_M) (q : Int32 × am_M) (d4 d5 d6 d7 : Option Value) (h : fd_147_126 x1 x2 x3 y0 M = some q) : am_ev (tb_P L xs) 147 126 [some (.ref 96), some (.int x1), some (.int x2), some (.int x3), d4, d5, d6, d7] [.int y0] sh_A M (some (.int q.1), sh_A, q.2) := by
  unfold fd_147_126 at h
  refine am_ev_go (pc' := 128) (L' := [some (.ref 96), some (.int x1), some (.int x2), some (.int x3), d4, d5, d6, d7]) (st' := [.int (6 : Int32), .int y0]) (sh' := sh_A) (M' := M) 1 rfl ?_
  exact te_147_128 _ _ _ _ _ _ _ _ _ _ _ h
def fd_147_103 (x1 : Int32) (x2 : Int32) (x3 : Int32) (M : am_M) : Option (Int32 × am_M) := (fd_150 x1 M).bind fun q1 => if q1.1 = (0 : Int32) then (fd_147_136 x1 x2 x3 q1.2) else (if x1 < (3 : Int32) then (fd_147_126 x1 x2 x3 x3 q1.2) else (if (5 : Int32) < x1 then (fd_147_126 x1 x2 x3 x3 q1.2) else (fd_147_128 x1 x2 x3 x3 (7 : Int32) q1.2)))
set_option maxRecDepth 50000 in
theorem te_147_103 {L : Nat} {xs : Nat → Int32} (x1 : Int32) (x2 : Int32) (x3 : Int32) (M : am_M) (q : Int32 × am_M) (d4 d5 d6 d7 : Option Value) (h : fd_147_103 x1 x2 x3 M = some q) : am_ev (tb_P L xs) 147 103 [some (.ref 96), some (.int x1), some (.int x2), some (.int x3), d4, d5, d6, d7] [] sh_A M (some (.int q.1), sh_A, q.2) := by
  unfold fd_147_103 at h
  refine am_ev_go (pc' := 104) (L' := [some (.ref 96), some (.int x1), some (.int x2), some (.int x3), d4, d5, d6, d7]) (st' := [.int x1]) (sh' := sh_A) (M' := M) 1 rfl ?_
  obtain ⟨q1, hq2, h⟩ := Option.bind_eq_some_iff.mp h
  refine am_ev_call (mj := 150) (as := [.int x1]) (rest := []) (rv := some (.int q1.1)) (sh' := sh_A) (M' := q1.2) rfl (te_150 _ _ _ hq2) ?_
  show am_ev _ 147 107 [some (.ref 96), some (.int x1), some (.int x2), some (.int x3), d4, d5, d6, d7] [.int q1.1] sh_A q1.2 _
  refine am_ev_go (pc' := (am_br .eq q1.1 0 136 110)) (L' := [some (.ref 96), some (.int x1), some (.int x2), some (.int x3), d4, d5, d6, d7]) (st' := []) (sh' := sh_A) (M' := q1.2) 1 rfl ?_
  refine ev_eq (fun hc3 => ?_) (fun hc3 => ?_)
  · rw [if_pos hc3] at h
    exact te_147_136 _ _ _ _ _ _ _ _ _ h
  · rw [if_neg hc3] at h
    refine am_ev_go (pc' := (am_br .lt x1 (3 : Int32) 126 116)) (L' := [some (.ref 96), some (.int x1), some (.int x2), some (.int x3), d4, d5, d6, d7]) (st' := [.int x3]) (sh' := sh_A) (M' := q1.2) 4 rfl ?_
    refine ev_lt (fun hc4 => ?_) (fun hc4 => ?_)
    · rw [if_pos hc4] at h
      exact te_147_126 _ _ _ _ _ _ _ _ _ _ h
    · rw [if_neg hc4] at h
      refine am_ev_go (pc' := (am_br .gt x1 (5 : Int32) 126 121)) (L' := [some (.ref 96), some (.int x1), some (.int x2), some (.int x3), d4, d5, d6, d7]) (st' := [.int x3]) (sh' := sh_A) (M' := q1.2) 3 rfl ?_
      refine ev_gt (fun hc5 => ?_) (fun hc5 => ?_)
      · rw [if_pos hc5] at h
        exact te_147_126 _ _ _ _ _ _ _ _ _ _ h
      · rw [if_neg hc5] at h
        refine am_ev_go (pc' := 128) (L' := [some (.ref 96), some (.int x1), some (.int x2), some (.int x3), d4, d5, d6, d7]) (st' := [.int (7 : Int32), .int x3]) (sh' := sh_A) (M' := q1.2) 2 rfl ?_
        exact te_147_128 _ _ _ _ _ _ _ _ _ _ _ h
def fd_147_84 (x1 : Int32) (x2 : Int32) (x3 : Int32) (x5 : Int32) (M : am_M) : Option (Int32 × am_M) := (fd_149 x1 M).bind fun q1 => if q1.1 = (0 : Int32) then (fd_147_103 x1 x2 x3 q1.2) else ((fd_148 x5 (6 : Int32) q1.2).bind fun q4 => if q4.1 = (0 : Int32) then (some ((0 : Int32), q4.2)) else (fd_147_103 x1 x2 x3 q4.2))
set_option maxRecDepth 50000 in
theorem te_147_84 {L : Nat} {xs : Nat → Int32} (x1 : Int32) (x2 : Int32) (x3 : Int32) (x5 : Int32) (M : am_M) (q : Int32 × am_M) (d4 d6 d7 : Option Value) (h : fd_147_84 x1 x2 x3 x5 M = some q) : am_ev (tb_P L xs) 147 84 [some (.ref 96), some (.int x1), some (.int x2), some (.int x3), d4, some (.int x5), d6, d7] [] sh_A M (some (.int q.1), sh_A, q.2) := by
  unfold fd_147_84 at h
  refine am_ev_go (pc' := 85) (L' := [some (.ref 96), some (.int x1), some (.int x2), some (.int x3), d4, some (.int x5), d6, d7]) (st' := [.int x1]) (sh' := sh_A) (M' := M) 1 rfl ?_
  obtain ⟨q1, hq2, h⟩ := Option.bind_eq_some_iff.mp h
  refine am_ev_call (mj := 149) (as := [.int x1]) (rest := []) (rv := some (.int q1.1)) (sh' := sh_A) (M' := q1.2) rfl (te_149 _ _ _ hq2) ?_
  show am_ev _ 147 88 [some (.ref 96), some (.int x1), some (.int x2), some (.int x3), d4, some (.int x5), d6, d7] [.int q1.1] sh_A q1.2 _
  refine am_ev_go (pc' := (am_br .eq q1.1 0 103 91)) (L' := [some (.ref 96), some (.int x1), some (.int x2), some (.int x3), d4, some (.int x5), d6, d7]) (st' := []) (sh' := sh_A) (M' := q1.2) 1 rfl ?_
  refine ev_eq (fun hc3 => ?_) (fun hc3 => ?_)
  · rw [if_pos hc3] at h
    exact te_147_103 _ _ _ _ _ _ _ _ _ h
  · rw [if_neg hc3] at h
    refine am_ev_go (pc' := 95) (L' := [some (.ref 96), some (.int x1), some (.int x2), some (.int x3), d4, some (.int x5), d6, d7]) (st' := [.int (6 : Int32), .int x5]) (sh' := sh_A) (M' := q1.2) 2 rfl ?_
    obtain ⟨q4, hq5, h⟩ := Option.bind_eq_some_iff.mp h
    refine am_ev_call (mj := 148) (as := [.int x5, .int (6 : Int32)]) (rest := []) (rv := some (.int q4.1)) (sh' := sh_A) (M' := q4.2) rfl (te_148 _ _ _ _ hq5) ?_
    show am_ev _ 147 98 [some (.ref 96), some (.int x1), some (.int x2), some (.int x3), d4, some (.int x5), d6, d7] [.int q4.1] sh_A q4.2 _
    refine am_ev_go (pc' := (am_br .ne q4.1 0 103 101)) (L' := [some (.ref 96), some (.int x1), some (.int x2), some (.int x3), d4, some (.int x5), d6, d7]) (st' := []) (sh' := sh_A) (M' := q4.2) 1 rfl ?_
    refine ev_ne (fun hc6 => ?_) (fun hc6 => ?_)
    · rw [if_neg hc6] at h
      exact te_147_103 _ _ _ _ _ _ _ _ _ h
    · rw [if_pos hc6] at h
      refine am_ev_go (pc' := 102) (L' := [some (.ref 96), some (.int x1), some (.int x2), some (.int x3), d4, some (.int x5), d6, d7]) (st' := [.int (0 : Int32)]) (sh' := sh_A) (M' := q4.2) 1 rfl ?_
      cases h
      exact am_ev_ret rfl
def fd_147_69 (x1 : Int32) (x2 : Int32) (x3 : Int32) (x4 : Int32) (x5 : Int32) (x7 : Int32) (M : am_M) : Option (Int32 × am_M) := if x7 = (0 : Int32) then (fd_147_84 x1 x2 x3 x5 M) else ((fd_148 x4 (6 : Int32) M).bind fun q2 => if q2.1 = (0 : Int32) then (some ((0 : Int32), q2.2)) else (fd_147_84 x1 x2 x3 x5 q2.2))
set_option maxRecDepth 50000 in
theorem te_147_69 {L : Nat} {xs : Nat → Int32} (x1 : Int32) (x2 : Int32) (x3 : Int32) (x4 : Int32) (x5 : Int32) (x7 : Int32) (M : am_M) (q : Int32 × am_M) (d6 : Option Value) (h : fd_147_69 x1 x2 x3 x4 x5 x7 M = some q) : am_ev (tb_P L xs) 147 69 [some (.ref 96), some (.int x1), some (.int x2), some (.int x3), some (.int x4), some (.int x5), d6, some (.int x7)] [] sh_A M (some (.int q.1), sh_A, q.2) := by
  unfold fd_147_69 at h
  refine am_ev_go (pc' := (am_br .eq x7 0 84 74)) (L' := [some (.ref 96), some (.int x1), some (.int x2), some (.int x3), some (.int x4), some (.int x5), d6, some (.int x7)]) (st' := []) (sh' := sh_A) (M' := M) 2 rfl ?_
  refine ev_eq (fun hc1 => ?_) (fun hc1 => ?_)
  · rw [if_pos hc1] at h
    exact te_147_84 _ _ _ _ _ _ _ _ _ h
  · rw [if_neg hc1] at h
    refine am_ev_go (pc' := 78) (L' := [some (.ref 96), some (.int x1), some (.int x2), some (.int x3), some (.int x4), some (.int x5), d6, some (.int x7)]) (st' := [.int (6 : Int32), .int x4]) (sh' := sh_A) (M' := M) 2 rfl ?_
    obtain ⟨q2, hq3, h⟩ := Option.bind_eq_some_iff.mp h
    refine am_ev_call (mj := 148) (as := [.int x4, .int (6 : Int32)]) (rest := []) (rv := some (.int q2.1)) (sh' := sh_A) (M' := q2.2) rfl (te_148 _ _ _ _ hq3) ?_
    show am_ev _ 147 81 [some (.ref 96), some (.int x1), some (.int x2), some (.int x3), some (.int x4), some (.int x5), d6, some (.int x7)] [.int q2.1] sh_A q2.2 _
    refine am_ev_go (pc' := (am_br .eq q2.1 0 101 84)) (L' := [some (.ref 96), some (.int x1), some (.int x2), some (.int x3), some (.int x4), some (.int x5), d6, some (.int x7)]) (st' := []) (sh' := sh_A) (M' := q2.2) 1 rfl ?_
    refine ev_eq (fun hc4 => ?_) (fun hc4 => ?_)
    · rw [if_pos hc4] at h
      refine am_ev_go (pc' := 102) (L' := [some (.ref 96), some (.int x1), some (.int x2), some (.int x3), some (.int x4), some (.int x5), d6, some (.int x7)]) (st' := [.int (0 : Int32)]) (sh' := sh_A) (M' := q2.2) 1 rfl ?_
      cases h
      exact am_ev_ret rfl
    · rw [if_neg hc4] at h
      exact te_147_84 _ _ _ _ _ _ _ _ _ h
def fd_147_53 (x1 : Int32) (x2 : Int32) (x3 : Int32) (x4 : Int32) (x5 : Int32) (x6 : Int32) (y0 : Int32) (M : am_M) : Option (Int32 × am_M) := if x6 = (0 : Int32) then (fd_147_69 x1 x2 x3 x4 x5 y0 M) else ((fd_148 x2 (6 : Int32) M).bind fun q2 => if q2.1 = (0 : Int32) then (some ((0 : Int32), q2.2)) else (fd_147_69 x1 x2 x3 x4 x5 y0 q2.2))
set_option maxRecDepth 50000 in
theorem te_147_53 {L : Nat} {xs : Nat → Int32} (x1 : Int32) (x2 : Int32) (x3 : Int32) (x4 : Int32) (x5 : Int32) (x6 : Int32) (y0 : Int32) (M : am_M) (q : Int32 × am_M) (d7 : Option Value) (h : fd_147_53 x1 x2 x3 x4 x5 x6 y0 M = some q) : am_ev (tb_P L xs) 147 53 [some (.ref 96), some (.int x1), some (.int x2), some (.int x3), some (.int x4), some (.int x5), some (.int x6), d7] [.int y0] sh_A M (some (.int q.1), sh_A, q.2) := by
  unfold fd_147_53 at h
  refine am_ev_go (pc' := (am_br .eq x6 0 69 60)) (L' := [some (.ref 96), some (.int x1), some (.int x2), some (.int x3), some (.int x4), some (.int x5), some (.int x6), some (.int y0)]) (st' := []) (sh' := sh_A) (M' := M) 3 rfl ?_
  refine ev_eq (fun hc1 => ?_) (fun hc1 => ?_)
  · rw [if_pos hc1] at h
    exact te_147_69 _ _ _ _ _ _ _ _ _ h
  · rw [if_neg hc1] at h
    refine am_ev_go (pc' := 63) (L' := [some (.ref 96), some (.int x1), some (.int x2), some (.int x3), some (.int x4), some (.int x5), some (.int x6), some (.int y0)]) (st' := [.int (6 : Int32), .int x2]) (sh' := sh_A) (M' := M) 2 rfl ?_
    obtain ⟨q2, hq3, h⟩ := Option.bind_eq_some_iff.mp h
    refine am_ev_call (mj := 148) (as := [.int x2, .int (6 : Int32)]) (rest := []) (rv := some (.int q2.1)) (sh' := sh_A) (M' := q2.2) rfl (te_148 _ _ _ _ hq3) ?_
    show am_ev _ 147 66 [some (.ref 96), some (.int x1), some (.int x2), some (.int x3), some (.int x4), some (.int x5), some (.int x6), some (.int y0)] [.int q2.1] sh_A q2.2 _
    refine am_ev_go (pc' := (am_br .eq q2.1 0 101 69)) (L' := [some (.ref 96), some (.int x1), some (.int x2), some (.int x3), some (.int x4), some (.int x5), some (.int x6), some (.int y0)]) (st' := []) (sh' := sh_A) (M' := q2.2) 1 rfl ?_
    refine ev_eq (fun hc4 => ?_) (fun hc4 => ?_)
    · rw [if_pos hc4] at h
      refine am_ev_go (pc' := 102) (L' := [some (.ref 96), some (.int x1), some (.int x2), some (.int x3), some (.int x4), some (.int x5), some (.int x6), some (.int y0)]) (st' := [.int (0 : Int32)]) (sh' := sh_A) (M' := q2.2) 1 rfl ?_
      cases h
      exact am_ev_ret rfl
    · rw [if_neg hc4] at h
      exact te_147_69 _ _ _ _ _ _ _ _ _ h
def fd_147_52 (x1 : Int32) (x2 : Int32) (x3 : Int32) (x4 : Int32) (x5 : Int32) (x6 : Int32) (M : am_M) : Option (Int32 × am_M) := fd_147_53 x1 x2 x3 x4 x5 x6 (0 : Int32) M
set_option maxRecDepth 50000 in
theorem te_147_52 {L : Nat} {xs : Nat → Int32} (x1 : Int32) (x2 : Int32) (x3 : Int32) (x4 : Int32) (x5 : Int32) (x6 : Int32) (M : am_M) (q : Int32 × am_M) (d7 : Option Value) (h : fd_147_52 x1 x2 x3 x4 x5 x6 M = some q) : am_ev (tb_P L xs) 147 52 [some (.ref 96), some (.int x1), some (.int x2), some (.int x3), some (.int x4), some (.int x5), some (.int x6), d7] [] sh_A M (some (.int q.1), sh_A, q.2) := by
  unfold fd_147_52 at h
  refine am_ev_go (pc' := 53) (L' := [some (.ref 96), some (.int x1), some (.int x2), some (.int x3), some (.int x4), some (.int x5), some (.int x6), d7]) (st' := [.int (0 : Int32)]) (sh' := sh_A) (M' := M) 1 rfl ?_
  exact te_147_53 _ _ _ _ _ _ _ _ _ _ h
def fd_147_48 (x1 : Int32) (x2 : Int32) (x3 : Int32) (x4 : Int32) (x5 : Int32) (x6 : Int32) (M : am_M) : Option (Int32 × am_M) := fd_147_53 x1 x2 x3 x4 x5 x6 (1 : Int32) M
set_option maxRecDepth 50000 in
theorem te_147_48 {L : Nat} {xs : Nat → Int32} (x1 : Int32) (x2 : Int32) (x3 : Int32) (x4 : Int32) (x5 : Int32) (x6 : Int32) (M : am_M) (q : Int32 × am_M) (d7 : Option Value) (h : fd_147_48 x1 x2 x3 x4 x5 x6 M = some q) : am_ev (tb_P L xs) 147 48 [some (.ref 96), some (.int x1), some (.int x2), some (.int x3), some (.int x4), some (.int x5), some (.int x6), d7] [] sh_A M (some (.int q.1), sh_A, q.2) := by
  unfold fd_147_48 at h
  refine am_ev_go (pc' := 53) (L' := [some (.ref 96), some (.int x1), some (.int x2), some (.int x3), some (.int x4), some (.int x5), some (.int x6), d7]) (st' := [.int (1 : Int32)]) (sh' := sh_A) (M' := M) 2 rfl ?_
  exact te_147_53 _ _ _ _ _ _ _ _ _ _ h
def fd_147_32 (x1 : Int32) (x2 : Int32) (x3 : Int32) (x4 : Int32) (x5 : Int32) (y0 : Int32) (M : am_M) : Option (Int32 × am_M) := if x1 = (0 : Int32) then (fd_147_48 x1 x2 x3 x4 x5 y0 M) else (if x1 < (3 : Int32) then (fd_147_52 x1 x2 x3 x4 x5 y0 M) else (if (5 : Int32) < x1 then (fd_147_52 x1 x2 x3 x4 x5 y0 M) else (fd_147_48 x1 x2 x3 x4 x5 y0 M)))
set_option maxRecDepth 50000 in
theorem te_147_32 {L : Nat} {xs : Nat → Int32} (x1 : Int32) (x2 : Int32) (x3 : Int32) (x4 : Int32) (x5 : Int32) (y0 : Int32) (M : am_M) (q : Int32 × am_M) (d6 d7 : Option Value) (h : fd_147_32 x1 x2 x3 x4 x5 y0 M = some q) : am_ev (tb_P L xs) 147 32 [some (.ref 96), some (.int x1), some (.int x2), some (.int x3), some (.int x4), some (.int x5), d6, d7] [.int y0] sh_A M (some (.int q.1), sh_A, q.2) := by
  unfold fd_147_32 at h
  refine am_ev_go (pc' := (am_br .eq x1 0 48 38)) (L' := [some (.ref 96), some (.int x1), some (.int x2), some (.int x3), some (.int x4), some (.int x5), some (.int y0), d7]) (st' := []) (sh' := sh_A) (M' := M) 3 rfl ?_
  refine ev_eq (fun hc1 => ?_) (fun hc1 => ?_)
  · rw [if_pos hc1] at h
    exact te_147_48 _ _ _ _ _ _ _ _ _ h
  · rw [if_neg hc1] at h
    refine am_ev_go (pc' := (am_br .lt x1 (3 : Int32) 52 43)) (L' := [some (.ref 96), some (.int x1), some (.int x2), some (.int x3), some (.int x4), some (.int x5), some (.int y0), d7]) (st' := []) (sh' := sh_A) (M' := M) 3 rfl ?_
    refine ev_lt (fun hc2 => ?_) (fun hc2 => ?_)
    · rw [if_pos hc2] at h
      exact te_147_52 _ _ _ _ _ _ _ _ _ h
    · rw [if_neg hc2] at h
      refine am_ev_go (pc' := (am_br .gt x1 (5 : Int32) 52 48)) (L' := [some (.ref 96), some (.int x1), some (.int x2), some (.int x3), some (.int x4), some (.int x5), some (.int y0), d7]) (st' := []) (sh' := sh_A) (M' := M) 3 rfl ?_
      refine ev_gt (fun hc3 => ?_) (fun hc3 => ?_)
      · rw [if_pos hc3] at h
        exact te_147_52 _ _ _ _ _ _ _ _ _ h
      · rw [if_neg hc3] at h
        exact te_147_48 _ _ _ _ _ _ _ _ _ h
def fd_147_27 (x1 : Int32) (x2 : Int32) (x3 : Int32) (x4 : Int32) (x5 : Int32) (M : am_M) : Option (Int32 × am_M) := fd_147_32 x1 x2 x3 x4 x5 (1 : Int32) M
set_option maxRecDepth 50000 in
theorem te_147_27 {L : Nat} {xs : Nat → Int32} (x1 : Int32) (x2 : Int32) (x3 : Int32) (x4 : Int32) (x5 : Int32) (M : am_M) (q : Int32 × am_M) (d6 d7 : Option Value) (h : fd_147_27 x1 x2 x3 x4 x5 M = some q) : am_ev (tb_P L xs) 147 27 [some (.ref 96), some (.int x1), some (.int x2), some (.int x3), some (.int x4), some (.int x5), d6, d7] [] sh_A M (some (.int q.1), sh_A, q.2) := by
  unfold fd_147_27 at h
  refine am_ev_go (pc' := 32) (L' := [some (.ref 96), some (.int x1), some (.int x2), some (.int x3), some (.int x4), some (.int x5), d6, d7]) (st' := [.int (1 : Int32)]) (sh' := sh_A) (M' := M) 2 rfl ?_
  exact te_147_32 _ _ _ _ _ _ _ _ _ _ h
/-- CountedActorsModel.named(IIIII)Z -/
def fd_147 (a1 : Int32) (a2 : Int32) (a3 : Int32) (a4 : Int32) (a5 : Int32) (M : am_M) : Option (Int32 × am_M) := (fd_148 a1 (11 : Int32) M).bind fun q1 => if q1.1 = (0 : Int32) then (some ((0 : Int32), q1.2)) else (if a1 ≤ (3 : Int32) then (fd_147_27 a1 a2 a3 a4 a5 q1.2) else (if a1 = (5 : Int32) then (fd_147_27 a1 a2 a3 a4 a5 q1.2) else (if a1 = (10 : Int32) then (fd_147_27 a1 a2 a3 a4 a5 q1.2) else (fd_147_32 a1 a2 a3 a4 a5 (0 : Int32) q1.2))))
set_option maxRecDepth 50000 in
theorem te_147 {L : Nat} {xs : Nat → Int32} (a1 : Int32) (a2 : Int32) (a3 : Int32) (a4 : Int32) (a5 : Int32) (M : am_M) (q : Int32 × am_M) (h : fd_147 a1 a2 a3 a4 a5 M = some q) : am_ev (tb_P L xs) 147 0 [some (.ref 96), some (.int a1), some (.int a2), some (.int a3), some (.int a4), some (.int a5), none, none] [] sh_A M (some (.int q.1), sh_A, q.2) := by
  unfold fd_147 at h
  refine am_ev_go (pc' := 3) (L' := [some (.ref 96), some (.int a1), some (.int a2), some (.int a3), some (.int a4), some (.int a5), none, none]) (st' := [.int (11 : Int32), .int a1]) (sh' := sh_A) (M' := M) 2 rfl ?_
  obtain ⟨q1, hq2, h⟩ := Option.bind_eq_some_iff.mp h
  refine am_ev_call (mj := 148) (as := [.int a1, .int (11 : Int32)]) (rest := []) (rv := some (.int q1.1)) (sh' := sh_A) (M' := q1.2) rfl (te_148 _ _ _ _ hq2) ?_
  show am_ev _ 147 6 [some (.ref 96), some (.int a1), some (.int a2), some (.int a3), some (.int a4), some (.int a5), none, none] [.int q1.1] sh_A q1.2 _
  refine am_ev_go (pc' := (am_br .ne q1.1 0 11 9)) (L' := [some (.ref 96), some (.int a1), some (.int a2), some (.int a3), some (.int a4), some (.int a5), none, none]) (st' := []) (sh' := sh_A) (M' := q1.2) 1 rfl ?_
  refine ev_ne (fun hc3 => ?_) (fun hc3 => ?_)
  · rw [if_neg hc3] at h
    refine am_ev_go (pc' := (am_br .le a1 (3 : Int32) 27 16)) (L' := [some (.ref 96), some (.int a1), some (.int a2), some (.int a3), some (.int a4), some (.int a5), none, none]) (st' := []) (sh' := sh_A) (M' := q1.2) 3 rfl ?_
    refine ev_le (fun hc4 => ?_) (fun hc4 => ?_)
    · rw [if_pos hc4] at h
      exact te_147_27 _ _ _ _ _ _ _ _ _ h
    · rw [if_neg hc4] at h
      refine am_ev_go (pc' := (am_br .eq a1 (5 : Int32) 27 21)) (L' := [some (.ref 96), some (.int a1), some (.int a2), some (.int a3), some (.int a4), some (.int a5), none, none]) (st' := []) (sh' := sh_A) (M' := q1.2) 3 rfl ?_
      refine ev_eq (fun hc5 => ?_) (fun hc5 => ?_)
      · rw [if_pos hc5] at h
        exact te_147_27 _ _ _ _ _ _ _ _ _ h
      · rw [if_neg hc5] at h
        refine am_ev_go (pc' := (am_br .ne a1 (10 : Int32) 31 27)) (L' := [some (.ref 96), some (.int a1), some (.int a2), some (.int a3), some (.int a4), some (.int a5), none, none]) (st' := []) (sh' := sh_A) (M' := q1.2) 3 rfl ?_
        refine ev_ne (fun hc6 => ?_) (fun hc6 => ?_)
        · rw [if_neg hc6] at h
          refine am_ev_go (pc' := 32) (L' := [some (.ref 96), some (.int a1), some (.int a2), some (.int a3), some (.int a4), some (.int a5), none, none]) (st' := [.int (0 : Int32)]) (sh' := sh_A) (M' := q1.2) 1 rfl ?_
          exact te_147_32 _ _ _ _ _ _ _ _ _ _ h
        · rw [if_pos hc6] at h
          exact te_147_27 _ _ _ _ _ _ _ _ _ h
  · rw [if_pos hc3] at h
    refine am_ev_go (pc' := 10) (L' := [some (.ref 96), some (.int a1), some (.int a2), some (.int a3), some (.int a4), some (.int a5), none, none]) (st' := [.int (0 : Int32)]) (sh' := sh_A) (M' := q1.2) 1 rfl ?_
    cases h
    exact am_ev_ret rfl
def fd_151_22 (M : am_M) : Option (Int32 × am_M) := some ((1 : Int32), M)
set_option maxRecDepth 50000 in
theorem te_151_22 {L : Nat} {xs : Nat → Int32} (M : am_M) (q : Int32 × am_M) (d0 d1 : Option Value) (h : fd_151_22  M = some q) : am_ev (tb_P L xs) 151 22 [d0, d1] [] sh_A M (some (.int q.1), sh_A, q.2) := by
  unfold fd_151_22 at h
  refine am_ev_go (pc' := 27) (L' := [d0, d1]) (st' := [.int (1 : Int32)]) (sh' := sh_A) (M' := M) 2 rfl ?_
  cases h
  exact am_ev_ret rfl
/-- CountedActorsModel.safe(II)Z -/
def fd_151 (a0 : Int32) (a1 : Int32) (M : am_M) : Option (Int32 × am_M) := if a1 = (2 : Int32) then (fd_151_22 M) else ((fd_132 a0 M).bind fun q2 => if q2.1 = (0 : Int32) then (if a1 = (1 : Int32) then (if a0 = (1 : Int32) then (fd_151_22 q2.2) else (some ((0 : Int32), q2.2))) else (some ((0 : Int32), q2.2))) else (fd_151_22 q2.2))
set_option maxRecDepth 50000 in
theorem te_151 {L : Nat} {xs : Nat → Int32} (a0 : Int32) (a1 : Int32) (M : am_M) (q : Int32 × am_M) (h : fd_151 a0 a1 M = some q) : am_ev (tb_P L xs) 151 0 [some (.int a0), some (.int a1)] [] sh_A M (some (.int q.1), sh_A, q.2) := by
  unfold fd_151 at h
  refine am_ev_go (pc' := (am_br .eq a1 (2 : Int32) 22 5)) (L' := [some (.int a0), some (.int a1)]) (st' := []) (sh' := sh_A) (M' := M) 3 rfl ?_
  refine ev_eq (fun hc1 => ?_) (fun hc1 => ?_)
  · rw [if_pos hc1] at h
    exact te_151_22 _ _ _ _ h
  · rw [if_neg hc1] at h
    refine am_ev_go (pc' := 6) (L' := [some (.int a0), some (.int a1)]) (st' := [.int a0]) (sh' := sh_A) (M' := M) 1 rfl ?_
    obtain ⟨q2, hq3, h⟩ := Option.bind_eq_some_iff.mp h
    refine am_ev_call (mj := 132) (as := [.int a0]) (rest := []) (rv := some (.int q2.1)) (sh' := sh_A) (M' := q2.2) rfl (te_132 _ _ _ hq3) ?_
    show am_ev _ 151 9 [some (.int a0), some (.int a1)] [.int q2.1] sh_A q2.2 _
    refine am_ev_go (pc' := (am_br .ne q2.1 0 22 12)) (L' := [some (.int a0), some (.int a1)]) (st' := []) (sh' := sh_A) (M' := q2.2) 1 rfl ?_
    refine ev_ne (fun hc4 => ?_) (fun hc4 => ?_)
    · rw [if_neg hc4] at h
      exact te_151_22 _ _ _ _ h
    · rw [if_pos hc4] at h
      refine am_ev_go (pc' := (am_br .ne a1 (1 : Int32) 26 17)) (L' := [some (.int a0), some (.int a1)]) (st' := []) (sh' := sh_A) (M' := q2.2) 3 rfl ?_
      refine ev_ne (fun hc5 => ?_) (fun hc5 => ?_)
      · rw [if_neg hc5] at h
        refine am_ev_go (pc' := 27) (L' := [some (.int a0), some (.int a1)]) (st' := [.int (0 : Int32)]) (sh' := sh_A) (M' := q2.2) 1 rfl ?_
        cases h
        exact am_ev_ret rfl
      · rw [if_pos hc5] at h
        refine am_ev_go (pc' := (am_br .ne a0 (1 : Int32) 26 22)) (L' := [some (.int a0), some (.int a1)]) (st' := []) (sh' := sh_A) (M' := q2.2) 3 rfl ?_
        refine ev_ne (fun hc6 => ?_) (fun hc6 => ?_)
        · rw [if_neg hc6] at h
          refine am_ev_go (pc' := 27) (L' := [some (.int a0), some (.int a1)]) (st' := [.int (0 : Int32)]) (sh' := sh_A) (M' := q2.2) 1 rfl ?_
          cases h
          exact am_ev_ret rfl
        · rw [if_pos hc6] at h
          exact te_151_22 _ _ _ _ h
def fd_152_88 (M : am_M) : Option (Int32 × am_M) := some ((1 : Int32), M)
set_option maxRecDepth 50000 in
theorem te_152_88 {L : Nat} {xs : Nat → Int32} (M : am_M) (q : Int32 × am_M) (d0 d1 : Option Value) (h : fd_152_88  M = some q) : am_ev (tb_P L xs) 152 88 [d0, d1] [] sh_A M (some (.int q.1), sh_A, q.2) := by
  unfold fd_152_88 at h
  refine am_ev_go (pc' := 106) (L' := [d0, d1]) (st' := [.int (1 : Int32)]) (sh' := sh_A) (M' := M) 2 rfl ?_
  cases h
  exact am_ev_ret rfl
def fd_152_67 (M : am_M) : Option (Int32 × am_M) := some ((1 : Int32), M)
set_option maxRecDepth 50000 in
theorem te_152_67 {L : Nat} {xs : Nat → Int32} (M : am_M) (q : Int32 × am_M) (d0 d1 : Option Value) (h : fd_152_67  M = some q) : am_ev (tb_P L xs) 152 67 [d0, d1] [] sh_A M (some (.int q.1), sh_A, q.2) := by
  unfold fd_152_67 at h
  refine am_ev_go (pc' := 72) (L' := [d0, d1]) (st' := [.int (1 : Int32)]) (sh' := sh_A) (M' := M) 2 rfl ?_
  cases h
  exact am_ev_ret rfl
def fd_152_41 (M : am_M) : Option (Int32 × am_M) := some ((1 : Int32), M)
set_option maxRecDepth 50000 in
theorem te_152_41 {L : Nat} {xs : Nat → Int32} (M : am_M) (q : Int32 × am_M) (d0 d1 : Option Value) (h : fd_152_41  M = some q) : am_ev (tb_P L xs) 152 41 [d0, d1] [] sh_A M (some (.int q.1), sh_A, q.2) := by
  unfold fd_152_41 at h
  refine am_ev_go (pc' := 46) (L' := [d0, d1]) (st' := [.int (1 : Int32)]) (sh' := sh_A) (M' := M) 2 rfl ?_
  cases h
  exact am_ev_ret rfl
/-- CountedActorsModel.suits(II)Z -/
def fd_152 (a0 : Int32) (a1 : Int32) (M : am_M) : Option (Int32 × am_M) := if a0 = (0 : Int32) then (some ((1 : Int32), M)) else (if a0 = (1 : Int32) then (if a1 = (0 : Int32) then (some ((0 : Int32), M)) else (some ((1 : Int32), M))) else (if a0 = (2 : Int32) then (if a1 = (2 : Int32) then (fd_152_41 M) else (if a1 = (4 : Int32) then (fd_152_41 M) else (if a1 = (5 : Int32) then (fd_152_41 M) else (some ((0 : Int32), M))))) else (if a0 = (3 : Int32) then (if a1 = (3 : Int32) then (fd_152_67 M) else (if a1 = (4 : Int32) then (fd_152_67 M) else (if a1 = (5 : Int32) then (fd_152_67 M) else (some ((0 : Int32), M))))) else (if a0 = (4 : Int32) then (if a1 = (4 : Int32) then (fd_152_88 M) else (if a1 = (5 : Int32) then (fd_152_88 M) else (some ((0 : Int32), M)))) else (if a1 = (5 : Int32) then (some ((1 : Int32), M)) else (some ((0 : Int32), M)))))))
set_option maxRecDepth 50000 in
theorem te_152 {L : Nat} {xs : Nat → Int32} (a0 : Int32) (a1 : Int32) (M : am_M) (q : Int32 × am_M) (h : fd_152 a0 a1 M = some q) : am_ev (tb_P L xs) 152 0 [some (.int a0), some (.int a1)] [] sh_A M (some (.int q.1), sh_A, q.2) := by
  unfold fd_152 at h
  refine am_ev_go (pc' := (am_br .ne a0 0 6 4)) (L' := [some (.int a0), some (.int a1)]) (st' := []) (sh' := sh_A) (M' := M) 2 rfl ?_
  refine ev_ne (fun hc1 => ?_) (fun hc1 => ?_)
  · rw [if_neg hc1] at h
    refine am_ev_go (pc' := (am_br .ne a0 (1 : Int32) 21 11)) (L' := [some (.int a0), some (.int a1)]) (st' := []) (sh' := sh_A) (M' := M) 3 rfl ?_
    refine ev_ne (fun hc2 => ?_) (fun hc2 => ?_)
    · rw [if_neg hc2] at h
      refine am_ev_go (pc' := (am_br .ne a0 (2 : Int32) 47 26)) (L' := [some (.int a0), some (.int a1)]) (st' := []) (sh' := sh_A) (M' := M) 3 rfl ?_
      refine ev_ne (fun hc3 => ?_) (fun hc3 => ?_)
      · rw [if_neg hc3] at h
        refine am_ev_go (pc' := (am_br .ne a0 (3 : Int32) 73 52)) (L' := [some (.int a0), some (.int a1)]) (st' := []) (sh' := sh_A) (M' := M) 3 rfl ?_
        refine ev_ne (fun hc4 => ?_) (fun hc4 => ?_)
        · rw [if_neg hc4] at h
          refine am_ev_go (pc' := (am_br .ne a0 (4 : Int32) 96 78)) (L' := [some (.int a0), some (.int a1)]) (st' := []) (sh' := sh_A) (M' := M) 3 rfl ?_
          refine ev_ne (fun hc5 => ?_) (fun hc5 => ?_)
          · rw [if_neg hc5] at h
            refine am_ev_go (pc' := (am_br .ne a1 (5 : Int32) 105 101)) (L' := [some (.int a0), some (.int a1)]) (st' := []) (sh' := sh_A) (M' := M) 3 rfl ?_
            refine ev_ne (fun hc6 => ?_) (fun hc6 => ?_)
            · rw [if_neg hc6] at h
              refine am_ev_go (pc' := 106) (L' := [some (.int a0), some (.int a1)]) (st' := [.int (0 : Int32)]) (sh' := sh_A) (M' := M) 1 rfl ?_
              cases h
              exact am_ev_ret rfl
            · rw [if_pos hc6] at h
              refine am_ev_go (pc' := 106) (L' := [some (.int a0), some (.int a1)]) (st' := [.int (1 : Int32)]) (sh' := sh_A) (M' := M) 2 rfl ?_
              cases h
              exact am_ev_ret rfl
          · rw [if_pos hc5] at h
            refine am_ev_go (pc' := (am_br .eq a1 (4 : Int32) 88 83)) (L' := [some (.int a0), some (.int a1)]) (st' := []) (sh' := sh_A) (M' := M) 3 rfl ?_
            refine ev_eq (fun hc7 => ?_) (fun hc7 => ?_)
            · rw [if_pos hc7] at h
              exact te_152_88 _ _ _ _ h
            · rw [if_neg hc7] at h
              refine am_ev_go (pc' := (am_br .ne a1 (5 : Int32) 92 88)) (L' := [some (.int a0), some (.int a1)]) (st' := []) (sh' := sh_A) (M' := M) 3 rfl ?_
              refine ev_ne (fun hc8 => ?_) (fun hc8 => ?_)
              · rw [if_neg hc8] at h
                refine am_ev_go (pc' := 106) (L' := [some (.int a0), some (.int a1)]) (st' := [.int (0 : Int32)]) (sh' := sh_A) (M' := M) 2 rfl ?_
                cases h
                exact am_ev_ret rfl
              · rw [if_pos hc8] at h
                exact te_152_88 _ _ _ _ h
        · rw [if_pos hc4] at h
          refine am_ev_go (pc' := (am_br .eq a1 (3 : Int32) 67 57)) (L' := [some (.int a0), some (.int a1)]) (st' := []) (sh' := sh_A) (M' := M) 3 rfl ?_
          refine ev_eq (fun hc9 => ?_) (fun hc9 => ?_)
          · rw [if_pos hc9] at h
            exact te_152_67 _ _ _ _ h
          · rw [if_neg hc9] at h
            refine am_ev_go (pc' := (am_br .eq a1 (4 : Int32) 67 62)) (L' := [some (.int a0), some (.int a1)]) (st' := []) (sh' := sh_A) (M' := M) 3 rfl ?_
            refine ev_eq (fun hc10 => ?_) (fun hc10 => ?_)
            · rw [if_pos hc10] at h
              exact te_152_67 _ _ _ _ h
            · rw [if_neg hc10] at h
              refine am_ev_go (pc' := (am_br .ne a1 (5 : Int32) 71 67)) (L' := [some (.int a0), some (.int a1)]) (st' := []) (sh' := sh_A) (M' := M) 3 rfl ?_
              refine ev_ne (fun hc11 => ?_) (fun hc11 => ?_)
              · rw [if_neg hc11] at h
                refine am_ev_go (pc' := 72) (L' := [some (.int a0), some (.int a1)]) (st' := [.int (0 : Int32)]) (sh' := sh_A) (M' := M) 1 rfl ?_
                cases h
                exact am_ev_ret rfl
              · rw [if_pos hc11] at h
                exact te_152_67 _ _ _ _ h
      · rw [if_pos hc3] at h
        refine am_ev_go (pc' := (am_br .eq a1 (2 : Int32) 41 31)) (L' := [some (.int a0), some (.int a1)]) (st' := []) (sh' := sh_A) (M' := M) 3 rfl ?_
        refine ev_eq (fun hc12 => ?_) (fun hc12 => ?_)
        · rw [if_pos hc12] at h
          exact te_152_41 _ _ _ _ h
        · rw [if_neg hc12] at h
          refine am_ev_go (pc' := (am_br .eq a1 (4 : Int32) 41 36)) (L' := [some (.int a0), some (.int a1)]) (st' := []) (sh' := sh_A) (M' := M) 3 rfl ?_
          refine ev_eq (fun hc13 => ?_) (fun hc13 => ?_)
          · rw [if_pos hc13] at h
            exact te_152_41 _ _ _ _ h
          · rw [if_neg hc13] at h
            refine am_ev_go (pc' := (am_br .ne a1 (5 : Int32) 45 41)) (L' := [some (.int a0), some (.int a1)]) (st' := []) (sh' := sh_A) (M' := M) 3 rfl ?_
            refine ev_ne (fun hc14 => ?_) (fun hc14 => ?_)
            · rw [if_neg hc14] at h
              refine am_ev_go (pc' := 46) (L' := [some (.int a0), some (.int a1)]) (st' := [.int (0 : Int32)]) (sh' := sh_A) (M' := M) 1 rfl ?_
              cases h
              exact am_ev_ret rfl
            · rw [if_pos hc14] at h
              exact te_152_41 _ _ _ _ h
    · rw [if_pos hc2] at h
      refine am_ev_go (pc' := (am_br .eq a1 0 19 15)) (L' := [some (.int a0), some (.int a1)]) (st' := []) (sh' := sh_A) (M' := M) 2 rfl ?_
      refine ev_eq (fun hc15 => ?_) (fun hc15 => ?_)
      · rw [if_pos hc15] at h
        refine am_ev_go (pc' := 20) (L' := [some (.int a0), some (.int a1)]) (st' := [.int (0 : Int32)]) (sh' := sh_A) (M' := M) 1 rfl ?_
        cases h
        exact am_ev_ret rfl
      · rw [if_neg hc15] at h
        refine am_ev_go (pc' := 20) (L' := [some (.int a0), some (.int a1)]) (st' := [.int (1 : Int32)]) (sh' := sh_A) (M' := M) 2 rfl ?_
        cases h
        exact am_ev_ret rfl
  · rw [if_pos hc1] at h
    refine am_ev_go (pc' := 5) (L' := [some (.int a0), some (.int a1)]) (st' := [.int (1 : Int32)]) (sh' := sh_A) (M' := M) 1 rfl ?_
    cases h
    exact am_ev_ret rfl
def fd_146_333 (x1 : Int32) (x3 : Int32) (x8 : Int32) (M : am_M) : Option (Int32 × am_M) := if x1 = (8 : Int32) then (if x3 < 0 ∨ 6 ≤ x3.toNatClampNeg then none else (fd_152 x8 (M 102 x3.toNatClampNeg) M).bind fun q3 => if q3.1 = (0 : Int32) then (some ((9 : Int32), q3.2)) else (some ((0 : Int32), q3.2))) else (some ((0 : Int32), M))
set_option maxRecDepth 50000 in
theorem te_146_333 {L : Nat} {xs : Nat → Int32} (x1 : Int32) (x3 : Int32) (x8 : Int32) (M : am_M) (q : Int32 × am_M) (d2 d4 d5 d6 d7 : Option Value) (h : fd_146_333 x1 x3 x8 M = some q) : am_ev (tb_P L xs) 146 333 [some (.ref 96), some (.int x1), d2, some (.int x3), d4, d5, d6, d7, some (.int x8)] [] sh_A M (some (.int q.1), sh_A, q.2) := by
  unfold fd_146_333 at h
  refine am_ev_go (pc' := (am_br .ne x1 (8 : Int32) 356 339)) (L' := [some (.ref 96), some (.int x1), d2, some (.int x3), d4, d5, d6, d7, some (.int x8)]) (st' := []) (sh' := sh_A) (M' := M) 3 rfl ?_
  refine ev_ne (fun hc1 => ?_) (fun hc1 => ?_)
  · rw [if_neg hc1] at h
    refine am_ev_go (pc' := 357) (L' := [some (.ref 96), some (.int x1), d2, some (.int x3), d4, d5, d6, d7, some (.int x8)]) (st' := [.int (0 : Int32)]) (sh' := sh_A) (M' := M) 1 rfl ?_
    cases h
    exact am_ev_ret rfl
  · rw [if_pos hc1] at h
    refine am_ev_go (pc' := 346) (L' := [some (.ref 96), some (.int x1), d2, some (.int x3), d4, d5, d6, d7, some (.int x8)]) (st' := [.int x3, .ref 102, .int x8]) (sh' := sh_A) (M' := M) 4 rfl ?_
    by_cases hg2 : x3 < 0 ∨ 6 ≤ x3.toNatClampNeg
    case pos => rw [if_pos hg2] at h; cases h
    rw [if_neg hg2] at h
    refine ev_iald rfl rfl hg2 ?_
    obtain ⟨q3, hq4, h⟩ := Option.bind_eq_some_iff.mp h
    refine am_ev_call (mj := 152) (as := [.int x8, .int (M 102 x3.toNatClampNeg)]) (rest := []) (rv := some (.int q3.1)) (sh' := sh_A) (M' := q3.2) rfl (te_152 _ _ _ _ hq4) ?_
    show am_ev _ 146 350 [some (.ref 96), some (.int x1), d2, some (.int x3), d4, d5, d6, d7, some (.int x8)] [.int q3.1] sh_A q3.2 _
    refine am_ev_go (pc' := (am_br .ne q3.1 0 356 353)) (L' := [some (.ref 96), some (.int x1), d2, some (.int x3), d4, d5, d6, d7, some (.int x8)]) (st' := []) (sh' := sh_A) (M' := q3.2) 1 rfl ?_
    refine ev_ne (fun hc5 => ?_) (fun hc5 => ?_)
    · rw [if_neg hc5] at h
      refine am_ev_go (pc' := 357) (L' := [some (.ref 96), some (.int x1), d2, some (.int x3), d4, d5, d6, d7, some (.int x8)]) (st' := [.int (0 : Int32)]) (sh' := sh_A) (M' := q3.2) 1 rfl ?_
      cases h
      exact am_ev_ret rfl
    · rw [if_pos hc5] at h
      refine am_ev_go (pc' := 355) (L' := [some (.ref 96), some (.int x1), d2, some (.int x3), d4, d5, d6, d7, some (.int x8)]) (st' := [.int (9 : Int32)]) (sh' := sh_A) (M' := q3.2) 1 rfl ?_
      cases h
      exact am_ev_ret rfl
def fd_146_323 (x1 : Int32) (x3 : Int32) (x4 : Int32) (x8 : Int32) (M : am_M) : Option (Int32 × am_M) := (fd_152 x8 x4 M).bind fun q1 => if q1.1 = (0 : Int32) then (some ((9 : Int32), q1.2)) else (fd_146_333 x1 x3 x8 q1.2)
set_option maxRecDepth 50000 in
theorem te_146_323 {L : Nat} {xs : Nat → Int32} (x1 : Int32) (x3 : Int32) (x4 : Int32) (x8 : Int32) (M : am_M) (q : Int32 × am_M) (d2 d5 d6 d7 : Option Value) (h : fd_146_323 x1 x3 x4 x8 M = some q) : am_ev (tb_P L xs) 146 323 [some (.ref 96), some (.int x1), d2, some (.int x3), some (.int x4), d5, d6, d7, some (.int x8)] [] sh_A M (some (.int q.1), sh_A, q.2) := by
  unfold fd_146_323 at h
  refine am_ev_go (pc' := 327) (L' := [some (.ref 96), some (.int x1), d2, some (.int x3), some (.int x4), d5, d6, d7, some (.int x8)]) (st' := [.int x4, .int x8]) (sh' := sh_A) (M' := M) 2 rfl ?_
  obtain ⟨q1, hq2, h⟩ := Option.bind_eq_some_iff.mp h
  refine am_ev_call (mj := 152) (as := [.int x8, .int x4]) (rest := []) (rv := some (.int q1.1)) (sh' := sh_A) (M' := q1.2) rfl (te_152 _ _ _ _ hq2) ?_
  show am_ev _ 146 330 [some (.ref 96), some (.int x1), d2, some (.int x3), some (.int x4), d5, d6, d7, some (.int x8)] [.int q1.1] sh_A q1.2 _
  refine am_ev_go (pc' := (am_br .eq q1.1 0 353 333)) (L' := [some (.ref 96), some (.int x1), d2, some (.int x3), some (.int x4), d5, d6, d7, some (.int x8)]) (st' := []) (sh' := sh_A) (M' := q1.2) 1 rfl ?_
  refine ev_eq (fun hc3 => ?_) (fun hc3 => ?_)
  · rw [if_pos hc3] at h
    refine am_ev_go (pc' := 355) (L' := [some (.ref 96), some (.int x1), d2, some (.int x3), some (.int x4), d5, d6, d7, some (.int x8)]) (st' := [.int (9 : Int32)]) (sh' := sh_A) (M' := q1.2) 1 rfl ?_
    cases h
    exact am_ev_ret rfl
  · rw [if_neg hc3] at h
    exact te_146_333 _ _ _ _ _ _ _ _ _ _ h
def fd_146_313 (x1 : Int32) (x3 : Int32) (x4 : Int32) (x8 : Int32) (M : am_M) : Option (Int32 × am_M) := if x1 = (4 : Int32) then (fd_146_323 x1 x3 x4 x8 M) else (if x1 = (5 : Int32) then (fd_146_323 x1 x3 x4 x8 M) else (fd_146_333 x1 x3 x8 M))
set_option maxRecDepth 50000 in
theorem te_146_313 {L : Nat} {xs : Nat → Int32} (x1 : Int32) (x3 : Int32) (x4 : Int32) (x8 : Int32) (M : am_M) (q : Int32 × am_M) (d2 d5 d6 d7 : Option Value) (h : fd_146_313 x1 x3 x4 x8 M = some q) : am_ev (tb_P L xs) 146 313 [some (.ref 96), some (.int x1), d2, some (.int x3), some (.int x4), d5, d6, d7, some (.int x8)] [] sh_A M (some (.int q.1), sh_A, q.2) := by
  unfold fd_146_313 at h
  refine am_ev_go (pc' := (am_br .eq x1 (4 : Int32) 323 318)) (L' := [some (.ref 96), some (.int x1), d2, some (.int x3), some (.int x4), d5, d6, d7, some (.int x8)]) (st' := []) (sh' := sh_A) (M' := M) 3 rfl ?_
  refine ev_eq (fun hc1 => ?_) (fun hc1 => ?_)
  · rw [if_pos hc1] at h
    exact te_146_323 _ _ _ _ _ _ _ _ _ _ h
  · rw [if_neg hc1] at h
    refine am_ev_go (pc' := (am_br .ne x1 (5 : Int32) 333 323)) (L' := [some (.ref 96), some (.int x1), d2, some (.int x3), some (.int x4), d5, d6, d7, some (.int x8)]) (st' := []) (sh' := sh_A) (M' := M) 3 rfl ?_
    refine ev_ne (fun hc2 => ?_) (fun hc2 => ?_)
    · rw [if_neg hc2] at h
      exact te_146_333 _ _ _ _ _ _ _ _ _ _ h
    · rw [if_pos hc2] at h
      exact te_146_323 _ _ _ _ _ _ _ _ _ _ h
def fd_146_300 (x1 : Int32) (x3 : Int32) (x4 : Int32) (x7 : Int32) (x8 : Int32) (M : am_M) : Option (Int32 × am_M) := (fd_151 x8 x7 M).bind fun q1 => if q1.1 = (0 : Int32) then (some ((8 : Int32), q1.2)) else (fd_146_313 x1 x3 x4 x8 q1.2)
set_option maxRecDepth 50000 in
theorem te_146_300 {L : Nat} {xs : Nat → Int32} (x1 : Int32) (x3 : Int32) (x4 : Int32) (x7 : Int32) (x8 : Int32) (M : am_M) (q : Int32 × am_M) (d2 d5 d6 : Option Value) (h : fd_146_300 x1 x3 x4 x7 x8 M = some q) : am_ev (tb_P L xs) 146 300 [some (.ref 96), some (.int x1), d2, some (.int x3), some (.int x4), d5, d6, some (.int x7), some (.int x8)] [] sh_A M (some (.int q.1), sh_A, q.2) := by
  unfold fd_146_300 at h
  refine am_ev_go (pc' := 304) (L' := [some (.ref 96), some (.int x1), d2, some (.int x3), some (.int x4), d5, d6, some (.int x7), some (.int x8)]) (st' := [.int x7, .int x8]) (sh' := sh_A) (M' := M) 2 rfl ?_
  obtain ⟨q1, hq2, h⟩ := Option.bind_eq_some_iff.mp h
  refine am_ev_call (mj := 151) (as := [.int x8, .int x7]) (rest := []) (rv := some (.int q1.1)) (sh' := sh_A) (M' := q1.2) rfl (te_151 _ _ _ _ hq2) ?_
  show am_ev _ 146 307 [some (.ref 96), some (.int x1), d2, some (.int x3), some (.int x4), d5, d6, some (.int x7), some (.int x8)] [.int q1.1] sh_A q1.2 _
  refine am_ev_go (pc' := (am_br .ne q1.1 0 313 310)) (L' := [some (.ref 96), some (.int x1), d2, some (.int x3), some (.int x4), d5, d6, some (.int x7), some (.int x8)]) (st' := []) (sh' := sh_A) (M' := q1.2) 1 rfl ?_
  refine ev_ne (fun hc3 => ?_) (fun hc3 => ?_)
  · rw [if_neg hc3] at h
    exact te_146_313 _ _ _ _ _ _ _ _ _ _ h
  · rw [if_pos hc3] at h
    refine am_ev_go (pc' := 312) (L' := [some (.ref 96), some (.int x1), d2, some (.int x3), some (.int x4), d5, d6, some (.int x7), some (.int x8)]) (st' := [.int (8 : Int32)]) (sh' := sh_A) (M' := q1.2) 1 rfl ?_
    cases h
    exact am_ev_ret rfl
def fd_146_290 (x1 : Int32) (x3 : Int32) (x4 : Int32) (x7 : Int32) (x8 : Int32) (M : am_M) : Option (Int32 × am_M) := if x1 = (4 : Int32) then (fd_146_300 x1 x3 x4 x7 x8 M) else (if x1 = (5 : Int32) then (fd_146_300 x1 x3 x4 x7 x8 M) else (fd_146_313 x1 x3 x4 x8 M))
set_option maxRecDepth 50000 in
theorem te_146_290 {L : Nat} {xs : Nat → Int32} (x1 : Int32) (x3 : Int32) (x4 : Int32) (x7 : Int32) (x8 : Int32) (M : am_M) (q : Int32 × am_M) (d2 d5 d6 : Option Value) (h : fd_146_290 x1 x3 x4 x7 x8 M = some q) : am_ev (tb_P L xs) 146 290 [some (.ref 96), some (.int x1), d2, some (.int x3), some (.int x4), d5, d6, some (.int x7), some (.int x8)] [] sh_A M (some (.int q.1), sh_A, q.2) := by
  unfold fd_146_290 at h
  refine am_ev_go (pc' := (am_br .eq x1 (4 : Int32) 300 295)) (L' := [some (.ref 96), some (.int x1), d2, some (.int x3), some (.int x4), d5, d6, some (.int x7), some (.int x8)]) (st' := []) (sh' := sh_A) (M' := M) 3 rfl ?_
  refine ev_eq (fun hc1 => ?_) (fun hc1 => ?_)
  · rw [if_pos hc1] at h
    exact te_146_300 _ _ _ _ _ _ _ _ _ _ h
  · rw [if_neg hc1] at h
    refine am_ev_go (pc' := (am_br .ne x1 (5 : Int32) 313 300)) (L' := [some (.ref 96), some (.int x1), d2, some (.int x3), some (.int x4), d5, d6, some (.int x7), some (.int x8)]) (st' := []) (sh' := sh_A) (M' := M) 3 rfl ?_
    refine ev_ne (fun hc2 => ?_) (fun hc2 => ?_)
    · rw [if_neg hc2] at h
      exact te_146_313 _ _ _ _ _ _ _ _ _ _ h
    · rw [if_pos hc2] at h
      exact te_146_300 _ _ _ _ _ _ _ _ _ _ h
def fd_146_276 (x1 : Int32) (x3 : Int32) (x4 : Int32) (x7 : Int32) (y0 : Int32) (M : am_M) : Option (Int32 × am_M) := if x1 = (4 : Int32) then ((fd_138 y0 M).bind fun q2 => fd_146_290 x1 x3 x4 x7 q2.1 q2.2) else (fd_146_290 x1 x3 x4 x7 y0 M)
set_option maxRecDepth 50000 in
theorem te_146_276 {L : Nat} {xs : Nat → Int32} (x1 : Int32) (x3 : Int32) (x4 : Int32) (x7 : Int32) (y0 : Int32) (M : am_M) (q : Int32 × am_M) (d2 d5 d6 d8 : Option Value) (h : fd_146_276 x1 x3 x4 x7 y0 M = some q) : am_ev (tb_P L xs) 146 276 [some (.ref 96), some (.int x1), d2, some (.int x3), some (.int x4), d5, d6, some (.int x7), d8] [.int y0] sh_A M (some (.int q.1), sh_A, q.2) := by
  unfold fd_146_276 at h
  refine am_ev_go (pc' := (am_br .ne x1 (4 : Int32) 290 283)) (L' := [some (.ref 96), some (.int x1), d2, some (.int x3), some (.int x4), d5, d6, some (.int x7), some (.int y0)]) (st' := []) (sh' := sh_A) (M' := M) 4 rfl ?_
  refine ev_ne (fun hc1 => ?_) (fun hc1 => ?_)
  · rw [if_neg hc1] at h
    exact te_146_290 _ _ _ _ _ _ _ _ _ _ h
  · rw [if_pos hc1] at h
    refine am_ev_go (pc' := 285) (L' := [some (.ref 96), some (.int x1), d2, some (.int x3), some (.int x4), d5, d6, some (.int x7), some (.int y0)]) (st' := [.int y0]) (sh' := sh_A) (M' := M) 1 rfl ?_
    obtain ⟨q2, hq3, h⟩ := Option.bind_eq_some_iff.mp h
    refine am_ev_call (mj := 138) (as := [.int y0]) (rest := []) (rv := some (.int q2.1)) (sh' := sh_A) (M' := q2.2) rfl (te_138 _ _ _ hq3) ?_
    show am_ev _ 146 288 [some (.ref 96), some (.int x1), d2, some (.int x3), some (.int x4), d5, d6, some (.int x7), some (.int y0)] [.int q2.1] sh_A q2.2 _
    refine am_ev_go (pc' := 290) (L' := [some (.ref 96), some (.int x1), d2, some (.int x3), some (.int x4), d5, d6, some (.int x7), some (.int q2.1)]) (st' := []) (sh' := sh_A) (M' := q2.2) 1 rfl ?_
    exact te_146_290 _ _ _ _ _ _ _ _ _ _ h
def fd_146_258 (x1 : Int32) (x3 : Int32) (x4 : Int32) (x5 : Int32) (x7 : Int32) (M : am_M) : Option (Int32 × am_M) := (fd_149 x1 M).bind fun q1 => if q1.1 = (0 : Int32) then (fd_146_276 x1 x3 x4 x7 (-1 : Int32) q1.2) else (if x5 < 0 ∨ 6 ≤ x5.toNatClampNeg then none else fd_146_276 x1 x3 x4 x7 (q1.2 105 x5.toNatClampNeg) q1.2)
set_option maxRecDepth 50000 in
theorem te_146_258 {L : Nat} {xs : Nat → Int32} (x1 : Int32) (x3 : Int32) (x4 : Int32) (x5 : Int32) (x7 : Int32) (M : am_M) (q : Int32 × am_M) (d2 d6 d8 : Option Value) (h : fd_146_258 x1 x3 x4 x5 x7 M = some q) : am_ev (tb_P L xs) 146 258 [some (.ref 96), some (.int x1), d2, some (.int x3), some (.int x4), some (.int x5), d6, some (.int x7), d8] [] sh_A M (some (.int q.1), sh_A, q.2) := by
  unfold fd_146_258 at h
  refine am_ev_go (pc' := 259) (L' := [some (.ref 96), some (.int x1), d2, some (.int x3), some (.int x4), some (.int x5), d6, some (.int x7), d8]) (st' := [.int x1]) (sh' := sh_A) (M' := M) 1 rfl ?_
  obtain ⟨q1, hq2, h⟩ := Option.bind_eq_some_iff.mp h
  refine am_ev_call (mj := 149) (as := [.int x1]) (rest := []) (rv := some (.int q1.1)) (sh' := sh_A) (M' := q1.2) rfl (te_149 _ _ _ hq2) ?_
  show am_ev _ 146 262 [some (.ref 96), some (.int x1), d2, some (.int x3), some (.int x4), some (.int x5), d6, some (.int x7), d8] [.int q1.1] sh_A q1.2 _
  refine am_ev_go (pc' := (am_br .eq q1.1 0 275 265)) (L' := [some (.ref 96), some (.int x1), d2, some (.int x3), some (.int x4), some (.int x5), d6, some (.int x7), d8]) (st' := []) (sh' := sh_A) (M' := q1.2) 1 rfl ?_
  refine ev_eq (fun hc3 => ?_) (fun hc3 => ?_)
  · rw [if_pos hc3] at h
    refine am_ev_go (pc' := 276) (L' := [some (.ref 96), some (.int x1), d2, some (.int x3), some (.int x4), some (.int x5), d6, some (.int x7), d8]) (st' := [.int (-1 : Int32)]) (sh' := sh_A) (M' := q1.2) 1 rfl ?_
    exact te_146_276 _ _ _ _ _ _ _ _ _ _ _ h
  · rw [if_neg hc3] at h
    refine am_ev_go (pc' := 271) (L' := [some (.ref 96), some (.int x1), d2, some (.int x3), some (.int x4), some (.int x5), d6, some (.int x7), d8]) (st' := [.int x5, .ref 105]) (sh' := sh_A) (M' := q1.2) 3 rfl ?_
    by_cases hg4 : x5 < 0 ∨ 6 ≤ x5.toNatClampNeg
    case pos => rw [if_pos hg4] at h; cases h
    rw [if_neg hg4] at h
    refine ev_iald rfl rfl hg4 ?_
    refine am_ev_go (pc' := 276) (L' := [some (.ref 96), some (.int x1), d2, some (.int x3), some (.int x4), some (.int x5), d6, some (.int x7), d8]) (st' := [.int (q1.2 105 x5.toNatClampNeg)]) (sh' := sh_A) (M' := q1.2) 1 rfl ?_
    exact te_146_276 _ _ _ _ _ _ _ _ _ _ _ h
def fd_146_236 (x1 : Int32) (x3 : Int32) (x4 : Int32) (x5 : Int32) (x7 : Int32) (M : am_M) : Option (Int32 × am_M) := if x1 < (4 : Int32) then (fd_146_258 x1 x3 x4 x5 x7 M) else (if (6 : Int32) < x1 then (fd_146_258 x1 x3 x4 x5 x7 M) else ((fd_144 x7 M).bind fun q3 => if q3.1 = (0 : Int32) then (some ((7 : Int32), q3.2)) else (fd_146_258 x1 x3 x4 x5 x7 q3.2)))
set_option maxRecDepth 50000 in
theorem te_146_236 {L : Nat} {xs : Nat → Int32} (x1 : Int32) (x3 : Int32) (x4 : Int32) (x5 : Int32) (x7 : Int32) (M : am_M) (q : Int32 × am_M) (d2 d6 d8 : Option Value) (h : fd_146_236 x1 x3 x4 x5 x7 M = some q) : am_ev (tb_P L xs) 146 236 [some (.ref 96), some (.int x1), d2, some (.int x3), some (.int x4), some (.int x5), d6, some (.int x7), d8] [] sh_A M (some (.int q.1), sh_A, q.2) := by
  unfold fd_146_236 at h
  refine am_ev_go (pc' := (am_br .lt x1 (4 : Int32) 258 241)) (L' := [some (.ref 96), some (.int x1), d2, some (.int x3), some (.int x4), some (.int x5), d6, some (.int x7), d8]) (st' := []) (sh' := sh_A) (M' := M) 3 rfl ?_
  refine ev_lt (fun hc1 => ?_) (fun hc1 => ?_)
  · rw [if_pos hc1] at h
    exact te_146_258 _ _ _ _ _ _ _ _ _ _ h
  · rw [if_neg hc1] at h
    refine am_ev_go (pc' := (am_br .gt x1 (6 : Int32) 258 247)) (L' := [some (.ref 96), some (.int x1), d2, some (.int x3), some (.int x4), some (.int x5), d6, some (.int x7), d8]) (st' := []) (sh' := sh_A) (M' := M) 3 rfl ?_
    refine ev_gt (fun hc2 => ?_) (fun hc2 => ?_)
    · rw [if_pos hc2] at h
      exact te_146_258 _ _ _ _ _ _ _ _ _ _ h
    · rw [if_neg hc2] at h
      refine am_ev_go (pc' := 249) (L' := [some (.ref 96), some (.int x1), d2, some (.int x3), some (.int x4), some (.int x5), d6, some (.int x7), d8]) (st' := [.int x7]) (sh' := sh_A) (M' := M) 1 rfl ?_
      obtain ⟨q3, hq4, h⟩ := Option.bind_eq_some_iff.mp h
      refine am_ev_call (mj := 144) (as := [.int x7]) (rest := []) (rv := some (.int q3.1)) (sh' := sh_A) (M' := q3.2) rfl (te_144 _ _ _ hq4) ?_
      show am_ev _ 146 252 [some (.ref 96), some (.int x1), d2, some (.int x3), some (.int x4), some (.int x5), d6, some (.int x7), d8] [.int q3.1] sh_A q3.2 _
      refine am_ev_go (pc' := (am_br .ne q3.1 0 258 255)) (L' := [some (.ref 96), some (.int x1), d2, some (.int x3), some (.int x4), some (.int x5), d6, some (.int x7), d8]) (st' := []) (sh' := sh_A) (M' := q3.2) 1 rfl ?_
      refine ev_ne (fun hc5 => ?_) (fun hc5 => ?_)
      · rw [if_neg hc5] at h
        exact te_146_258 _ _ _ _ _ _ _ _ _ _ h
      · rw [if_pos hc5] at h
        refine am_ev_go (pc' := 257) (L' := [some (.ref 96), some (.int x1), d2, some (.int x3), some (.int x4), some (.int x5), d6, some (.int x7), d8]) (st' := [.int (7 : Int32)]) (sh' := sh_A) (M' := q3.2) 1 rfl ?_
        cases h
        exact am_ev_ret rfl
def fd_146_230 (x1 : Int32) (x3 : Int32) (x4 : Int32) (x5 : Int32) (x7 : Int32) (M : am_M) : Option (Int32 × am_M) := if x7 = (5 : Int32) then (some ((7 : Int32), M)) else (fd_146_236 x1 x3 x4 x5 x7 M)
set_option maxRecDepth 50000 in
theorem te_146_230 {L : Nat} {xs : Nat → Int32} (x1 : Int32) (x3 : Int32) (x4 : Int32) (x5 : Int32) (x7 : Int32) (M : am_M) (q : Int32 × am_M) (d2 d6 d8 : Option Value) (h : fd_146_230 x1 x3 x4 x5 x7 M = some q) : am_ev (tb_P L xs) 146 230 [some (.ref 96), some (.int x1), d2, some (.int x3), some (.int x4), some (.int x5), d6, some (.int x7), d8] [] sh_A M (some (.int q.1), sh_A, q.2) := by
  unfold fd_146_230 at h
  refine am_ev_go (pc' := (am_br .eq x7 (5 : Int32) 255 236)) (L' := [some (.ref 96), some (.int x1), d2, some (.int x3), some (.int x4), some (.int x5), d6, some (.int x7), d8]) (st' := []) (sh' := sh_A) (M' := M) 3 rfl ?_
  refine ev_eq (fun hc1 => ?_) (fun hc1 => ?_)
  · rw [if_pos hc1] at h
    refine am_ev_go (pc' := 257) (L' := [some (.ref 96), some (.int x1), d2, some (.int x3), some (.int x4), some (.int x5), d6, some (.int x7), d8]) (st' := [.int (7 : Int32)]) (sh' := sh_A) (M' := M) 1 rfl ?_
    cases h
    exact am_ev_ret rfl
  · rw [if_neg hc1] at h
    exact te_146_236 _ _ _ _ _ _ _ _ _ _ h
def fd_146_217 (x1 : Int32) (x3 : Int32) (x4 : Int32) (x5 : Int32) (y0 : Int32) (M : am_M) : Option (Int32 × am_M) := if x1 = (3 : Int32) then (fd_146_230 x1 x3 x4 x5 y0 M) else (if x1 = (7 : Int32) then (fd_146_230 x1 x3 x4 x5 y0 M) else (fd_146_236 x1 x3 x4 x5 y0 M))
set_option maxRecDepth 50000 in
theorem te_146_217 {L : Nat} {xs : Nat → Int32} (x1 : Int32) (x3 : Int32) (x4 : Int32) (x5 : Int32) (y0 : Int32) (M : am_M) (q : Int32 × am_M) (d2 d6 d7 d8 : Option Value) (h : fd_146_217 x1 x3 x4 x5 y0 M = some q) : am_ev (tb_P L xs) 146 217 [some (.ref 96), some (.int x1), d2, some (.int x3), some (.int x4), some (.int x5), d6, d7, d8] [.int y0] sh_A M (some (.int q.1), sh_A, q.2) := by
  unfold fd_146_217 at h
  refine am_ev_go (pc' := (am_br .eq x1 (3 : Int32) 230 224)) (L' := [some (.ref 96), some (.int x1), d2, some (.int x3), some (.int x4), some (.int x5), d6, some (.int y0), d8]) (st' := []) (sh' := sh_A) (M' := M) 4 rfl ?_
  refine ev_eq (fun hc1 => ?_) (fun hc1 => ?_)
  · rw [if_pos hc1] at h
    exact te_146_230 _ _ _ _ _ _ _ _ _ _ h
  · rw [if_neg hc1] at h
    refine am_ev_go (pc' := (am_br .ne x1 (7 : Int32) 236 230)) (L' := [some (.ref 96), some (.int x1), d2, some (.int x3), some (.int x4), some (.int x5), d6, some (.int y0), d8]) (st' := []) (sh' := sh_A) (M' := M) 3 rfl ?_
    refine ev_ne (fun hc2 => ?_) (fun hc2 => ?_)
    · rw [if_neg hc2] at h
      exact te_146_236 _ _ _ _ _ _ _ _ _ _ h
    · rw [if_pos hc2] at h
      exact te_146_230 _ _ _ _ _ _ _ _ _ _ h
def fd_146_201 (x1 : Int32) (x3 : Int32) (x4 : Int32) (x5 : Int32) (M : am_M) : Option (Int32 × am_M) := (fd_150 x1 M).bind fun q1 => if q1.1 = (0 : Int32) then (fd_146_217 x1 x3 x4 x5 (-1 : Int32) q1.2) else ((fd_139 x3 q1.2).bind fun q4 => fd_146_217 x1 x3 x4 x5 q4.1 q4.2)
set_option maxRecDepth 50000 in
theorem te_146_201 {L : Nat} {xs : Nat → Int32} (x1 : Int32) (x3 : Int32) (x4 : Int32) (x5 : Int32) (M : am_M) (q : Int32 × am_M) (d2 d6 d7 d8 : Option Value) (h : fd_146_201 x1 x3 x4 x5 M = some q) : am_ev (tb_P L xs) 146 201 [some (.ref 96), some (.int x1), d2, some (.int x3), some (.int x4), some (.int x5), d6, d7, d8] [] sh_A M (some (.int q.1), sh_A, q.2) := by
  unfold fd_146_201 at h
  refine am_ev_go (pc' := 202) (L' := [some (.ref 96), some (.int x1), d2, some (.int x3), some (.int x4), some (.int x5), d6, d7, d8]) (st' := [.int x1]) (sh' := sh_A) (M' := M) 1 rfl ?_
  obtain ⟨q1, hq2, h⟩ := Option.bind_eq_some_iff.mp h
  refine am_ev_call (mj := 150) (as := [.int x1]) (rest := []) (rv := some (.int q1.1)) (sh' := sh_A) (M' := q1.2) rfl (te_150 _ _ _ hq2) ?_
  show am_ev _ 146 205 [some (.ref 96), some (.int x1), d2, some (.int x3), some (.int x4), some (.int x5), d6, d7, d8] [.int q1.1] sh_A q1.2 _
  refine am_ev_go (pc' := (am_br .eq q1.1 0 216 208)) (L' := [some (.ref 96), some (.int x1), d2, some (.int x3), some (.int x4), some (.int x5), d6, d7, d8]) (st' := []) (sh' := sh_A) (M' := q1.2) 1 rfl ?_
  refine ev_eq (fun hc3 => ?_) (fun hc3 => ?_)
  · rw [if_pos hc3] at h
    refine am_ev_go (pc' := 217) (L' := [some (.ref 96), some (.int x1), d2, some (.int x3), some (.int x4), some (.int x5), d6, d7, d8]) (st' := [.int (-1 : Int32)]) (sh' := sh_A) (M' := q1.2) 1 rfl ?_
    exact te_146_217 _ _ _ _ _ _ _ _ _ _ _ h
  · rw [if_neg hc3] at h
    refine am_ev_go (pc' := 210) (L' := [some (.ref 96), some (.int x1), d2, some (.int x3), some (.int x4), some (.int x5), d6, d7, d8]) (st' := [.int x3, .ref 96]) (sh' := sh_A) (M' := q1.2) 2 rfl ?_
    obtain ⟨q4, hq5, h⟩ := Option.bind_eq_some_iff.mp h
    refine am_ev_call (mj := 139) (as := [.ref 96, .int x3]) (rest := []) (rv := some (.int q4.1)) (sh' := sh_A) (M' := q4.2) rfl (te_139 _ _ _ hq5) ?_
    show am_ev _ 146 213 [some (.ref 96), some (.int x1), d2, some (.int x3), some (.int x4), some (.int x5), d6, d7, d8] [.int q4.1] sh_A q4.2 _
    refine am_ev_go (pc' := 217) (L' := [some (.ref 96), some (.int x1), d2, some (.int x3), some (.int x4), some (.int x5), d6, d7, d8]) (st' := [.int q4.1]) (sh' := sh_A) (M' := q4.2) 1 rfl ?_
    exact te_146_217 _ _ _ _ _ _ _ _ _ _ _ h
def fd_146_187 (x1 : Int32) (x3 : Int32) (x4 : Int32) (x5 : Int32) (M : am_M) : Option (Int32 × am_M) := if x1 = (5 : Int32) then (if x3 = x5 then (some ((6 : Int32), M)) else (fd_146_201 x1 x3 x4 x5 M)) else (fd_146_201 x1 x3 x4 x5 M)
set_option maxRecDepth 50000 in
theorem te_146_187 {L : Nat} {xs : Nat → Int32} (x1 : Int32) (x3 : Int32) (x4 : Int32) (x5 : Int32) (M : am_M) (q : Int32 × am_M) (d2 d6 d7 d8 : Option Value) (h : fd_146_187 x1 x3 x4 x5 M = some q) : am_ev (tb_P L xs) 146 187 [some (.ref 96), some (.int x1), d2, some (.int x3), some (.int x4), some (.int x5), d6, d7, d8] [] sh_A M (some (.int q.1), sh_A, q.2) := by
  unfold fd_146_187 at h
  refine am_ev_go (pc' := (am_br .ne x1 (5 : Int32) 201 192)) (L' := [some (.ref 96), some (.int x1), d2, some (.int x3), some (.int x4), some (.int x5), d6, d7, d8]) (st' := []) (sh' := sh_A) (M' := M) 3 rfl ?_
  refine ev_ne (fun hc1 => ?_) (fun hc1 => ?_)
  · rw [if_neg hc1] at h
    exact te_146_201 _ _ _ _ _ _ _ _ _ _ h
  · rw [if_pos hc1] at h
    refine am_ev_go (pc' := (am_br .ne x3 x5 201 198)) (L' := [some (.ref 96), some (.int x1), d2, some (.int x3), some (.int x4), some (.int x5), d6, d7, d8]) (st' := []) (sh' := sh_A) (M' := M) 3 rfl ?_
    refine ev_ne (fun hc2 => ?_) (fun hc2 => ?_)
    · rw [if_neg hc2] at h
      exact te_146_201 _ _ _ _ _ _ _ _ _ _ h
    · rw [if_pos hc2] at h
      refine am_ev_go (pc' := 200) (L' := [some (.ref 96), some (.int x1), d2, some (.int x3), some (.int x4), some (.int x5), d6, d7, d8]) (st' := [.int (6 : Int32)]) (sh' := sh_A) (M' := M) 1 rfl ?_
      cases h
      exact am_ev_ret rfl
def fd_146_169 (x1 : Int32) (x3 : Int32) (x4 : Int32) (x5 : Int32) (M : am_M) : Option (Int32 × am_M) := (fd_149 x1 M).bind fun q1 => if q1.1 = (0 : Int32) then (fd_146_187 x1 x3 x4 x5 q1.2) else (if x5 < 0 ∨ 6 ≤ x5.toNatClampNeg then none else if (q1.2 105 x5.toNatClampNeg) = (-1 : Int32) then (some ((6 : Int32), q1.2)) else (fd_146_187 x1 x3 x4 x5 q1.2))
set_option maxRecDepth 50000 in
theorem te_146_169 {L : Nat} {xs : Nat → Int32} (x1 : Int32) (x3 : Int32) (x4 : Int32) (x5 : Int32) (M : am_M) (q : Int32 × am_M) (d2 d6 d7 d8 : Option Value) (h : fd_146_169 x1 x3 x4 x5 M = some q) : am_ev (tb_P L xs) 146 169 [some (.ref 96), some (.int x1), d2, some (.int x3), some (.int x4), some (.int x5), d6, d7, d8] [] sh_A M (some (.int q.1), sh_A, q.2) := by
  unfold fd_146_169 at h
  refine am_ev_go (pc' := 170) (L' := [some (.ref 96), some (.int x1), d2, some (.int x3), some (.int x4), some (.int x5), d6, d7, d8]) (st' := [.int x1]) (sh' := sh_A) (M' := M) 1 rfl ?_
  obtain ⟨q1, hq2, h⟩ := Option.bind_eq_some_iff.mp h
  refine am_ev_call (mj := 149) (as := [.int x1]) (rest := []) (rv := some (.int q1.1)) (sh' := sh_A) (M' := q1.2) rfl (te_149 _ _ _ hq2) ?_
  show am_ev _ 146 173 [some (.ref 96), some (.int x1), d2, some (.int x3), some (.int x4), some (.int x5), d6, d7, d8] [.int q1.1] sh_A q1.2 _
  refine am_ev_go (pc' := (am_br .eq q1.1 0 187 176)) (L' := [some (.ref 96), some (.int x1), d2, some (.int x3), some (.int x4), some (.int x5), d6, d7, d8]) (st' := []) (sh' := sh_A) (M' := q1.2) 1 rfl ?_
  refine ev_eq (fun hc3 => ?_) (fun hc3 => ?_)
  · rw [if_pos hc3] at h
    exact te_146_187 _ _ _ _ _ _ _ _ _ _ h
  · rw [if_neg hc3] at h
    refine am_ev_go (pc' := 182) (L' := [some (.ref 96), some (.int x1), d2, some (.int x3), some (.int x4), some (.int x5), d6, d7, d8]) (st' := [.int x5, .ref 105]) (sh' := sh_A) (M' := q1.2) 3 rfl ?_
    by_cases hg4 : x5 < 0 ∨ 6 ≤ x5.toNatClampNeg
    case pos => rw [if_pos hg4] at h; cases h
    rw [if_neg hg4] at h
    refine ev_iald rfl rfl hg4 ?_
    refine am_ev_go (pc' := (am_br .eq (q1.2 105 x5.toNatClampNeg) (-1 : Int32) 198 187)) (L' := [some (.ref 96), some (.int x1), d2, some (.int x3), some (.int x4), some (.int x5), d6, d7, d8]) (st' := []) (sh' := sh_A) (M' := q1.2) 2 rfl ?_
    refine ev_eq (fun hc5 => ?_) (fun hc5 => ?_)
    · rw [if_pos hc5] at h
      refine am_ev_go (pc' := 200) (L' := [some (.ref 96), some (.int x1), d2, some (.int x3), some (.int x4), some (.int x5), d6, d7, d8]) (st' := [.int (6 : Int32)]) (sh' := sh_A) (M' := q1.2) 1 rfl ?_
      cases h
      exact am_ev_ret rfl
    · rw [if_neg hc5] at h
      exact te_146_187 _ _ _ _ _ _ _ _ _ _ h
def fd_146_147 (x1 : Int32) (x3 : Int32) (x4 : Int32) (x5 : Int32) (x6 : Int32) (M : am_M) : Option (Int32 × am_M) := (fd_150 x1 M).bind fun q1 => if q1.1 = (0 : Int32) then (fd_146_169 x1 x3 x4 x5 q1.2) else (if x6 = (0 : Int32) then (if x3 < 0 ∨ 6 ≤ x3.toNatClampNeg then none else if (q1.2 105 x3.toNatClampNeg) = (-1 : Int32) then (some ((6 : Int32), q1.2)) else (fd_146_169 x1 x3 x4 x5 q1.2)) else (fd_146_169 x1 x3 x4 x5 q1.2))
set_option maxRecDepth 50000 in
theorem te_146_147 {L : Nat} {xs : Nat → Int32} (x1 : Int32) (x3 : Int32) (x4 : Int32) (x5 : Int32) (x6 : Int32) (M : am_M) (q : Int32 × am_M) (d2 d7 d8 : Option Value) (h : fd_146_147 x1 x3 x4 x5 x6 M = some q) : am_ev (tb_P L xs) 146 147 [some (.ref 96), some (.int x1), d2, some (.int x3), some (.int x4), some (.int x5), some (.int x6), d7, d8] [] sh_A M (some (.int q.1), sh_A, q.2) := by
  unfold fd_146_147 at h
  refine am_ev_go (pc' := 148) (L' := [some (.ref 96), some (.int x1), d2, some (.int x3), some (.int x4), some (.int x5), some (.int x6), d7, d8]) (st' := [.int x1]) (sh' := sh_A) (M' := M) 1 rfl ?_
  obtain ⟨q1, hq2, h⟩ := Option.bind_eq_some_iff.mp h
  refine am_ev_call (mj := 150) (as := [.int x1]) (rest := []) (rv := some (.int q1.1)) (sh' := sh_A) (M' := q1.2) rfl (te_150 _ _ _ hq2) ?_
  show am_ev _ 146 151 [some (.ref 96), some (.int x1), d2, some (.int x3), some (.int x4), some (.int x5), some (.int x6), d7, d8] [.int q1.1] sh_A q1.2 _
  refine am_ev_go (pc' := (am_br .eq q1.1 0 169 154)) (L' := [some (.ref 96), some (.int x1), d2, some (.int x3), some (.int x4), some (.int x5), some (.int x6), d7, d8]) (st' := []) (sh' := sh_A) (M' := q1.2) 1 rfl ?_
  refine ev_eq (fun hc3 => ?_) (fun hc3 => ?_)
  · rw [if_pos hc3] at h
    exact te_146_169 _ _ _ _ _ _ _ _ _ _ h
  · rw [if_neg hc3] at h
    refine am_ev_go (pc' := (am_br .ne x6 0 169 159)) (L' := [some (.ref 96), some (.int x1), d2, some (.int x3), some (.int x4), some (.int x5), some (.int x6), d7, d8]) (st' := []) (sh' := sh_A) (M' := q1.2) 2 rfl ?_
    refine ev_ne (fun hc4 => ?_) (fun hc4 => ?_)
    · rw [if_neg hc4] at h
      exact te_146_169 _ _ _ _ _ _ _ _ _ _ h
    · rw [if_pos hc4] at h
      refine am_ev_go (pc' := 164) (L' := [some (.ref 96), some (.int x1), d2, some (.int x3), some (.int x4), some (.int x5), some (.int x6), d7, d8]) (st' := [.int x3, .ref 105]) (sh' := sh_A) (M' := q1.2) 3 rfl ?_
      by_cases hg5 : x3 < 0 ∨ 6 ≤ x3.toNatClampNeg
      case pos => rw [if_pos hg5] at h; cases h
      rw [if_neg hg5] at h
      refine ev_iald rfl rfl hg5 ?_
      refine am_ev_go (pc' := (am_br .eq (q1.2 105 x3.toNatClampNeg) (-1 : Int32) 198 169)) (L' := [some (.ref 96), some (.int x1), d2, some (.int x3), some (.int x4), some (.int x5), some (.int x6), d7, d8]) (st' := []) (sh' := sh_A) (M' := q1.2) 2 rfl ?_
      refine ev_eq (fun hc6 => ?_) (fun hc6 => ?_)
      · rw [if_pos hc6] at h
        refine am_ev_go (pc' := 200) (L' := [some (.ref 96), some (.int x1), d2, some (.int x3), some (.int x4), some (.int x5), some (.int x6), d7, d8]) (st' := [.int (6 : Int32)]) (sh' := sh_A) (M' := q1.2) 1 rfl ?_
        cases h
        exact am_ev_ret rfl
      · rw [if_neg hc6] at h
        exact te_146_169 _ _ _ _ _ _ _ _ _ _ h
def fd_146_128 (x1 : Int32) (x3 : Int32) (x4 : Int32) (x5 : Int32) (x6 : Int32) (M : am_M) : Option (Int32 × am_M) := (fd_149 x1 M).bind fun q1 => if q1.1 = (0 : Int32) then (fd_146_147 x1 x3 x4 x5 x6 q1.2) else (if x5 < 0 ∨ 6 ≤ x5.toNatClampNeg then none else if (q1.2 106 x5.toNatClampNeg) = (0 : Int32) then (fd_146_147 x1 x3 x4 x5 x6 q1.2) else (some ((5 : Int32), q1.2)))
set_option maxRecDepth 50000 in
theorem te_146_128 {L : Nat} {xs : Nat → Int32} (x1 : Int32) (x3 : Int32) (x4 : Int32) (x5 : Int32) (x6 : Int32) (M : am_M) (q : Int32 × am_M) (d2 d7 d8 : Option Value) (h : fd_146_128 x1 x3 x4 x5 x6 M = some q) : am_ev (tb_P L xs) 146 128 [some (.ref 96), some (.int x1), d2, some (.int x3), some (.int x4), some (.int x5), some (.int x6), d7, d8] [] sh_A M (some (.int q.1), sh_A, q.2) := by
  unfold fd_146_128 at h
  refine am_ev_go (pc' := 129) (L' := [some (.ref 96), some (.int x1), d2, some (.int x3), some (.int x4), some (.int x5), some (.int x6), d7, d8]) (st' := [.int x1]) (sh' := sh_A) (M' := M) 1 rfl ?_
  obtain ⟨q1, hq2, h⟩ := Option.bind_eq_some_iff.mp h
  refine am_ev_call (mj := 149) (as := [.int x1]) (rest := []) (rv := some (.int q1.1)) (sh' := sh_A) (M' := q1.2) rfl (te_149 _ _ _ hq2) ?_
  show am_ev _ 146 132 [some (.ref 96), some (.int x1), d2, some (.int x3), some (.int x4), some (.int x5), some (.int x6), d7, d8] [.int q1.1] sh_A q1.2 _
  refine am_ev_go (pc' := (am_br .eq q1.1 0 147 135)) (L' := [some (.ref 96), some (.int x1), d2, some (.int x3), some (.int x4), some (.int x5), some (.int x6), d7, d8]) (st' := []) (sh' := sh_A) (M' := q1.2) 1 rfl ?_
  refine ev_eq (fun hc3 => ?_) (fun hc3 => ?_)
  · rw [if_pos hc3] at h
    exact te_146_147 _ _ _ _ _ _ _ _ _ _ h
  · rw [if_neg hc3] at h
    refine am_ev_go (pc' := 141) (L' := [some (.ref 96), some (.int x1), d2, some (.int x3), some (.int x4), some (.int x5), some (.int x6), d7, d8]) (st' := [.int x5, .ref 106]) (sh' := sh_A) (M' := q1.2) 3 rfl ?_
    by_cases hg4 : x5 < 0 ∨ 6 ≤ x5.toNatClampNeg
    case pos => rw [if_pos hg4] at h; cases h
    rw [if_neg hg4] at h
    refine ev_bald rfl rfl hg4 ?_
    refine am_ev_go (pc' := (am_br .eq (q1.2 106 x5.toNatClampNeg) 0 147 145)) (L' := [some (.ref 96), some (.int x1), d2, some (.int x3), some (.int x4), some (.int x5), some (.int x6), d7, d8]) (st' := []) (sh' := sh_A) (M' := q1.2) 1 rfl ?_
    refine ev_eq (fun hc5 => ?_) (fun hc5 => ?_)
    · rw [if_pos hc5] at h
      exact te_146_147 _ _ _ _ _ _ _ _ _ _ h
    · rw [if_neg hc5] at h
      refine am_ev_go (pc' := 146) (L' := [some (.ref 96), some (.int x1), d2, some (.int x3), some (.int x4), some (.int x5), some (.int x6), d7, d8]) (st' := [.int (5 : Int32)]) (sh' := sh_A) (M' := q1.2) 1 rfl ?_
      cases h
      exact am_ev_ret rfl
def fd_146_107 (x1 : Int32) (x3 : Int32) (x4 : Int32) (x5 : Int32) (x6 : Int32) (M : am_M) : Option (Int32 × am_M) := (fd_150 x1 M).bind fun q1 => if q1.1 = (0 : Int32) then (fd_146_128 x1 x3 x4 x5 x6 q1.2) else (if x6 = (0 : Int32) then (if x3 < 0 ∨ 6 ≤ x3.toNatClampNeg then none else if (q1.2 106 x3.toNatClampNeg) = (0 : Int32) then (fd_146_128 x1 x3 x4 x5 x6 q1.2) else (some ((5 : Int32), q1.2))) else (fd_146_128 x1 x3 x4 x5 x6 q1.2))
set_option maxRecDepth 50000 in
theorem te_146_107 {L : Nat} {xs : Nat → Int32} (x1 : Int32) (x3 : Int32) (x4 : Int32) (x5 : Int32) (x6 : Int32) (M : am_M) (q : Int32 × am_M) (d2 d7 d8 : Option Value) (h : fd_146_107 x1 x3 x4 x5 x6 M = some q) : am_ev (tb_P L xs) 146 107 [some (.ref 96), some (.int x1), d2, some (.int x3), some (.int x4), some (.int x5), some (.int x6), d7, d8] [] sh_A M (some (.int q.1), sh_A, q.2) := by
  unfold fd_146_107 at h
  refine am_ev_go (pc' := 108) (L' := [some (.ref 96), some (.int x1), d2, some (.int x3), some (.int x4), some (.int x5), some (.int x6), d7, d8]) (st' := [.int x1]) (sh' := sh_A) (M' := M) 1 rfl ?_
  obtain ⟨q1, hq2, h⟩ := Option.bind_eq_some_iff.mp h
  refine am_ev_call (mj := 150) (as := [.int x1]) (rest := []) (rv := some (.int q1.1)) (sh' := sh_A) (M' := q1.2) rfl (te_150 _ _ _ hq2) ?_
  show am_ev _ 146 111 [some (.ref 96), some (.int x1), d2, some (.int x3), some (.int x4), some (.int x5), some (.int x6), d7, d8] [.int q1.1] sh_A q1.2 _
  refine am_ev_go (pc' := (am_br .eq q1.1 0 128 114)) (L' := [some (.ref 96), some (.int x1), d2, some (.int x3), some (.int x4), some (.int x5), some (.int x6), d7, d8]) (st' := []) (sh' := sh_A) (M' := q1.2) 1 rfl ?_
  refine ev_eq (fun hc3 => ?_) (fun hc3 => ?_)
  · rw [if_pos hc3] at h
    exact te_146_128 _ _ _ _ _ _ _ _ _ _ h
  · rw [if_neg hc3] at h
    refine am_ev_go (pc' := (am_br .ne x6 0 128 119)) (L' := [some (.ref 96), some (.int x1), d2, some (.int x3), some (.int x4), some (.int x5), some (.int x6), d7, d8]) (st' := []) (sh' := sh_A) (M' := q1.2) 2 rfl ?_
    refine ev_ne (fun hc4 => ?_) (fun hc4 => ?_)
    · rw [if_neg hc4] at h
      exact te_146_128 _ _ _ _ _ _ _ _ _ _ h
    · rw [if_pos hc4] at h
      refine am_ev_go (pc' := 124) (L' := [some (.ref 96), some (.int x1), d2, some (.int x3), some (.int x4), some (.int x5), some (.int x6), d7, d8]) (st' := [.int x3, .ref 106]) (sh' := sh_A) (M' := q1.2) 3 rfl ?_
      by_cases hg5 : x3 < 0 ∨ 6 ≤ x3.toNatClampNeg
      case pos => rw [if_pos hg5] at h; cases h
      rw [if_neg hg5] at h
      refine ev_bald rfl rfl hg5 ?_
      refine am_ev_go (pc' := (am_br .ne (q1.2 106 x3.toNatClampNeg) 0 145 128)) (L' := [some (.ref 96), some (.int x1), d2, some (.int x3), some (.int x4), some (.int x5), some (.int x6), d7, d8]) (st' := []) (sh' := sh_A) (M' := q1.2) 1 rfl ?_
      refine ev_ne (fun hc6 => ?_) (fun hc6 => ?_)
      · rw [if_neg hc6] at h
        refine am_ev_go (pc' := 146) (L' := [some (.ref 96), some (.int x1), d2, some (.int x3), some (.int x4), some (.int x5), some (.int x6), d7, d8]) (st' := [.int (5 : Int32)]) (sh' := sh_A) (M' := q1.2) 1 rfl ?_
        cases h
        exact am_ev_ret rfl
      · rw [if_pos hc6] at h
        exact te_146_128 _ _ _ _ _ _ _ _ _ _ h
def fd_146_93 (x1 : Int32) (x3 : Int32) (x4 : Int32) (x5 : Int32) (y0 : Int32) (M : am_M) : Option (Int32 × am_M) := if y0 = (0 : Int32) then (fd_146_107 x1 x3 x4 x5 y0 M) else (if (M 96 14) = (0 : Int32) then (fd_146_107 x1 x3 x4 x5 y0 M) else (some ((5 : Int32), M)))
set_option maxRecDepth 50000 in
theorem te_146_93 {L : Nat} {xs : Nat → Int32} (x1 : Int32) (x3 : Int32) (x4 : Int32) (x5 : Int32) (y0 : Int32) (M : am_M) (q : Int32 × am_M) (d2 d6 d7 d8 : Option Value) (h : fd_146_93 x1 x3 x4 x5 y0 M = some q) : am_ev (tb_P L xs) 146 93 [some (.ref 96), some (.int x1), d2, some (.int x3), some (.int x4), some (.int x5), d6, d7, d8] [.int y0] sh_A M (some (.int q.1), sh_A, q.2) := by
  unfold fd_146_93 at h
  refine am_ev_go (pc' := (am_br .eq y0 0 107 100)) (L' := [some (.ref 96), some (.int x1), d2, some (.int x3), some (.int x4), some (.int x5), some (.int y0), d7, d8]) (st' := []) (sh' := sh_A) (M' := M) 3 rfl ?_
  refine ev_eq (fun hc1 => ?_) (fun hc1 => ?_)
  · rw [if_pos hc1] at h
    exact te_146_107 _ _ _ _ _ _ _ _ _ _ h
  · rw [if_neg hc1] at h
    refine am_ev_go (pc' := (am_br .ne (M 96 14) 0 145 107)) (L' := [some (.ref 96), some (.int x1), d2, some (.int x3), some (.int x4), some (.int x5), some (.int y0), d7, d8]) (st' := []) (sh' := sh_A) (M' := M) 3 rfl ?_
    refine ev_ne (fun hc2 => ?_) (fun hc2 => ?_)
    · rw [if_neg hc2] at h
      refine am_ev_go (pc' := 146) (L' := [some (.ref 96), some (.int x1), d2, some (.int x3), some (.int x4), some (.int x5), some (.int y0), d7, d8]) (st' := [.int (5 : Int32)]) (sh' := sh_A) (M' := M) 1 rfl ?_
      cases h
      exact am_ev_ret rfl
    · rw [if_pos hc2] at h
      exact te_146_107 _ _ _ _ _ _ _ _ _ _ h
def fd_146_92 (x1 : Int32) (x3 : Int32) (x4 : Int32) (x5 : Int32) (M : am_M) : Option (Int32 × am_M) := fd_146_93 x1 x3 x4 x5 (0 : Int32) M
set_option maxRecDepth 50000 in
theorem te_146_92 {L : Nat} {xs : Nat → Int32} (x1 : Int32) (x3 : Int32) (x4 : Int32) (x5 : Int32) (M : am_M) (q : Int32 × am_M) (d2 d6 d7 d8 : Option Value) (h : fd_146_92 x1 x3 x4 x5 M = some q) : am_ev (tb_P L xs) 146 92 [some (.ref 96), some (.int x1), d2, some (.int x3), some (.int x4), some (.int x5), d6, d7, d8] [] sh_A M (some (.int q.1), sh_A, q.2) := by
  unfold fd_146_92 at h
  refine am_ev_go (pc' := 93) (L' := [some (.ref 96), some (.int x1), d2, some (.int x3), some (.int x4), some (.int x5), d6, d7, d8]) (st' := [.int (0 : Int32)]) (sh' := sh_A) (M' := M) 1 rfl ?_
  exact te_146_93 _ _ _ _ _ _ _ _ _ _ _ h
def fd_146_75 (x1 : Int32) (x3 : Int32) (x4 : Int32) (x5 : Int32) (M : am_M) : Option (Int32 × am_M) := (fd_150 x1 M).bind fun q1 => if q1.1 = (0 : Int32) then (fd_146_92 x1 x3 x4 x5 q1.2) else (if x3 = (6 : Int32) then (fd_146_93 x1 x3 x4 x5 (1 : Int32) q1.2) else (fd_146_92 x1 x3 x4 x5 q1.2))
set_option maxRecDepth 50000 in
theorem te_146_75 {L : Nat} {xs : Nat → Int32} (x1 : Int32) (x3 : Int32) (x4 : Int32) (x5 : Int32) (M : am_M) (q : Int32 × am_M) (d2 d6 d7 d8 : Option Value) (h : fd_146_75 x1 x3 x4 x5 M = some q) : am_ev (tb_P L xs) 146 75 [some (.ref 96), some (.int x1), d2, some (.int x3), some (.int x4), some (.int x5), d6, d7, d8] [] sh_A M (some (.int q.1), sh_A, q.2) := by
  unfold fd_146_75 at h
  refine am_ev_go (pc' := 76) (L' := [some (.ref 96), some (.int x1), d2, some (.int x3), some (.int x4), some (.int x5), d6, d7, d8]) (st' := [.int x1]) (sh' := sh_A) (M' := M) 1 rfl ?_
  obtain ⟨q1, hq2, h⟩ := Option.bind_eq_some_iff.mp h
  refine am_ev_call (mj := 150) (as := [.int x1]) (rest := []) (rv := some (.int q1.1)) (sh' := sh_A) (M' := q1.2) rfl (te_150 _ _ _ hq2) ?_
  show am_ev _ 146 79 [some (.ref 96), some (.int x1), d2, some (.int x3), some (.int x4), some (.int x5), d6, d7, d8] [.int q1.1] sh_A q1.2 _
  refine am_ev_go (pc' := (am_br .eq q1.1 0 92 82)) (L' := [some (.ref 96), some (.int x1), d2, some (.int x3), some (.int x4), some (.int x5), d6, d7, d8]) (st' := []) (sh' := sh_A) (M' := q1.2) 1 rfl ?_
  refine ev_eq (fun hc3 => ?_) (fun hc3 => ?_)
  · rw [if_pos hc3] at h
    exact te_146_92 _ _ _ _ _ _ _ _ _ _ h
  · rw [if_neg hc3] at h
    refine am_ev_go (pc' := (am_br .ne x3 (6 : Int32) 92 88)) (L' := [some (.ref 96), some (.int x1), d2, some (.int x3), some (.int x4), some (.int x5), d6, d7, d8]) (st' := []) (sh' := sh_A) (M' := q1.2) 3 rfl ?_
    refine ev_ne (fun hc4 => ?_) (fun hc4 => ?_)
    · rw [if_neg hc4] at h
      exact te_146_92 _ _ _ _ _ _ _ _ _ _ h
    · rw [if_pos hc4] at h
      refine am_ev_go (pc' := 93) (L' := [some (.ref 96), some (.int x1), d2, some (.int x3), some (.int x4), some (.int x5), d6, d7, d8]) (st' := [.int (1 : Int32)]) (sh' := sh_A) (M' := q1.2) 2 rfl ?_
      exact te_146_93 _ _ _ _ _ _ _ _ _ _ _ h
def fd_146_60 (x1 : Int32) (x3 : Int32) (x4 : Int32) (x5 : Int32) (M : am_M) : Option (Int32 × am_M) := if x1 = (10 : Int32) then (if (M 96 14) = (0 : Int32) then (some ((4 : Int32), M)) else (fd_146_75 x1 x3 x4 x5 M)) else (fd_146_75 x1 x3 x4 x5 M)
set_option maxRecDepth 50000 in
theorem te_146_60 {L : Nat} {xs : Nat → Int32} (x1 : Int32) (x3 : Int32) (x4 : Int32) (x5 : Int32) (M : am_M) (q : Int32 × am_M) (d2 d6 d7 d8 : Option Value) (h : fd_146_60 x1 x3 x4 x5 M = some q) : am_ev (tb_P L xs) 146 60 [some (.ref 96), some (.int x1), d2, some (.int x3), some (.int x4), some (.int x5), d6, d7, d8] [] sh_A M (some (.int q.1), sh_A, q.2) := by
  unfold fd_146_60 at h
  refine am_ev_go (pc' := (am_br .ne x1 (10 : Int32) 75 66)) (L' := [some (.ref 96), some (.int x1), d2, some (.int x3), some (.int x4), some (.int x5), d6, d7, d8]) (st' := []) (sh' := sh_A) (M' := M) 3 rfl ?_
  refine ev_ne (fun hc1 => ?_) (fun hc1 => ?_)
  · rw [if_neg hc1] at h
    exact te_146_75 _ _ _ _ _ _ _ _ _ _ h
  · rw [if_pos hc1] at h
    refine am_ev_go (pc' := (am_br .ne (M 96 14) 0 75 73)) (L' := [some (.ref 96), some (.int x1), d2, some (.int x3), some (.int x4), some (.int x5), d6, d7, d8]) (st' := []) (sh' := sh_A) (M' := M) 3 rfl ?_
    refine ev_ne (fun hc2 => ?_) (fun hc2 => ?_)
    · rw [if_neg hc2] at h
      exact te_146_75 _ _ _ _ _ _ _ _ _ _ h
    · rw [if_pos hc2] at h
      refine am_ev_go (pc' := 74) (L' := [some (.ref 96), some (.int x1), d2, some (.int x3), some (.int x4), some (.int x5), d6, d7, d8]) (st' := [.int (4 : Int32)]) (sh' := sh_A) (M' := M) 1 rfl ?_
      cases h
      exact am_ev_ret rfl
/-- CountedActorsModel.refusal(IIIII)I -/
def fd_146 (a1 : Int32) (a2 : Int32) (a3 : Int32) (a4 : Int32) (a5 : Int32) (M : am_M) : Option (Int32 × am_M) := if (M 96 7) = (0 : Int32) then (some ((1 : Int32), M)) else (if ((M 96 6) - (1 : Int32)) < 0 ∨ 6 ≤ ((M 96 6) - (1 : Int32)).toNatClampNeg then none else if (M 103 ((M 96 6) - (1 : Int32)).toNatClampNeg) = (10 : Int32) then (some ((2 : Int32), M)) else ((fd_147 a1 a2 a3 a4 a5 M).bind fun q4 => if q4.1 = (0 : Int32) then (some ((3 : Int32), q4.2)) else ((fd_135 q4.2).bind fun q7 => if a1 = (9 : Int32) then (if (q7 96 14) = (0 : Int32) then (fd_146_60 a1 a3 a4 a5 q7) else (some ((4 : Int32), q7))) else (fd_146_60 a1 a3 a4 a5 q7))))
set_option maxRecDepth 50000 in
theorem te_146 {L : Nat} {xs : Nat → Int32} (a1 : Int32) (a2 : Int32) (a3 : Int32) (a4 : Int32) (a5 : Int32) (M : am_M) (q : Int32 × am_M) (h : fd_146 a1 a2 a3 a4 a5 M = some q) : am_ev (tb_P L xs) 146 0 [some (.ref 96), some (.int a1), some (.int a2), some (.int a3), some (.int a4), some (.int a5), none, none, none] [] sh_A M (some (.int q.1), sh_A, q.2) := by
  unfold fd_146 at h
  refine am_ev_go (pc' := (am_br .ne (M 96 7) 0 9 7)) (L' := [some (.ref 96), some (.int a1), some (.int a2), some (.int a3), some (.int a4), some (.int a5), none, none, none]) (st' := []) (sh' := sh_A) (M' := M) 3 rfl ?_
  refine ev_ne (fun hc1 => ?_) (fun hc1 => ?_)
  · rw [if_neg hc1] at h
    refine am_ev_go (pc' := 19) (L' := [some (.ref 96), some (.int a1), some (.int a2), some (.int a3), some (.int a4), some (.int a5), none, none, none]) (st' := [.int ((M 96 6) - (1 : Int32)), .ref 103]) (sh' := sh_A) (M' := M) 6 rfl ?_
    by_cases hg2 : ((M 96 6) - (1 : Int32)) < 0 ∨ 6 ≤ ((M 96 6) - (1 : Int32)).toNatClampNeg
    case pos => rw [if_pos hg2] at h; cases h
    rw [if_neg hg2] at h
    refine ev_iald rfl rfl hg2 ?_
    refine am_ev_go (pc' := (am_br .ne (M 103 ((M 96 6) - (1 : Int32)).toNatClampNeg) (10 : Int32) 27 25)) (L' := [some (.ref 96), some (.int a1), some (.int a2), some (.int a3), some (.int a4), some (.int a5), none, none, none]) (st' := []) (sh' := sh_A) (M' := M) 2 rfl ?_
    refine ev_ne (fun hc3 => ?_) (fun hc3 => ?_)
    · rw [if_neg hc3] at h
      refine am_ev_go (pc' := 35) (L' := [some (.ref 96), some (.int a1), some (.int a2), some (.int a3), some (.int a4), some (.int a5), none, none, none]) (st' := [.int a5, .int a4, .int a3, .int a2, .int a1, .ref 96]) (sh' := sh_A) (M' := M) 6 rfl ?_
      obtain ⟨q4, hq5, h⟩ := Option.bind_eq_some_iff.mp h
      refine am_ev_call (mj := 147) (as := [.ref 96, .int a1, .int a2, .int a3, .int a4, .int a5]) (rest := []) (rv := some (.int q4.1)) (sh' := sh_A) (M' := q4.2) rfl (te_147 _ _ _ _ _ _ _ hq5) ?_
      show am_ev _ 146 38 [some (.ref 96), some (.int a1), some (.int a2), some (.int a3), some (.int a4), some (.int a5), none, none, none] [.int q4.1] sh_A q4.2 _
      refine am_ev_go (pc' := (am_br .ne q4.1 0 43 41)) (L' := [some (.ref 96), some (.int a1), some (.int a2), some (.int a3), some (.int a4), some (.int a5), none, none, none]) (st' := []) (sh' := sh_A) (M' := q4.2) 1 rfl ?_
      refine ev_ne (fun hc6 => ?_) (fun hc6 => ?_)
      · rw [if_neg hc6] at h
        refine am_ev_go (pc' := 44) (L' := [some (.ref 96), some (.int a1), some (.int a2), some (.int a3), some (.int a4), some (.int a5), none, none, none]) (st' := [.ref 96]) (sh' := sh_A) (M' := q4.2) 1 rfl ?_
        obtain ⟨q7, hq8, h⟩ := Option.bind_eq_some_iff.mp h
        refine am_ev_call (mj := 135) (as := [.ref 96]) (rest := []) (rv := none) (sh' := sh_A) (M' := q7) rfl (te_135 _ _ hq8) ?_
        show am_ev _ 146 47 [some (.ref 96), some (.int a1), some (.int a2), some (.int a3), some (.int a4), some (.int a5), none, none, none] [] sh_A q7 _
        refine am_ev_go (pc' := (am_br .ne a1 (9 : Int32) 60 53)) (L' := [some (.ref 96), some (.int a1), some (.int a2), some (.int a3), some (.int a4), some (.int a5), none, none, none]) (st' := []) (sh' := sh_A) (M' := q7) 3 rfl ?_
        refine ev_ne (fun hc9 => ?_) (fun hc9 => ?_)
        · rw [if_neg hc9] at h
          exact te_146_60 _ _ _ _ _ _ _ _ _ _ h
        · rw [if_pos hc9] at h
          refine am_ev_go (pc' := (am_br .ne (q7 96 14) 0 73 60)) (L' := [some (.ref 96), some (.int a1), some (.int a2), some (.int a3), some (.int a4), some (.int a5), none, none, none]) (st' := []) (sh' := sh_A) (M' := q7) 3 rfl ?_
          refine ev_ne (fun hc10 => ?_) (fun hc10 => ?_)
          · rw [if_neg hc10] at h
            refine am_ev_go (pc' := 74) (L' := [some (.ref 96), some (.int a1), some (.int a2), some (.int a3), some (.int a4), some (.int a5), none, none, none]) (st' := [.int (4 : Int32)]) (sh' := sh_A) (M' := q7) 1 rfl ?_
            cases h
            exact am_ev_ret rfl
          · rw [if_pos hc10] at h
            exact te_146_60 _ _ _ _ _ _ _ _ _ _ h
      · rw [if_pos hc6] at h
        refine am_ev_go (pc' := 42) (L' := [some (.ref 96), some (.int a1), some (.int a2), some (.int a3), some (.int a4), some (.int a5), none, none, none]) (st' := [.int (3 : Int32)]) (sh' := sh_A) (M' := q4.2) 1 rfl ?_
        cases h
        exact am_ev_ret rfl
    · rw [if_pos hc3] at h
      refine am_ev_go (pc' := 26) (L' := [some (.ref 96), some (.int a1), some (.int a2), some (.int a3), some (.int a4), some (.int a5), none, none, none]) (st' := [.int (2 : Int32)]) (sh' := sh_A) (M' := M) 1 rfl ?_
      cases h
      exact am_ev_ret rfl
  · rw [if_pos hc1] at h
    refine am_ev_go (pc' := 8) (L' := [some (.ref 96), some (.int a1), some (.int a2), some (.int a3), some (.int a4), some (.int a5), none, none, none]) (st' := [.int (1 : Int32)]) (sh' := sh_A) (M' := M) 1 rfl ?_
    cases h
    exact am_ev_ret rfl
