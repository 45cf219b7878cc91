/-- CountedActorsModel.add(IIIII)I -/
def fd_145 (a1 : Int32) (a2 : Int32) (a3 : Int32) (a4 : Int32) (a5 : Int32) (M : am_M) : Option (Int32 × am_M) := (fd_146 a1 a2 a3 a4 a5 M).bind fun q1 => if q1.1 = (0 : Int32) then (if ((q1.2 96 6) - (1 : Int32)) < 0 ∨ 6 ≤ ((q1.2 96 6) - (1 : Int32)).toNatClampNeg then none else if (((50 : Int32) * ((q1.2 96 6) - (1 : Int32))) + ((5 : Int32) * (q1.2 103 ((q1.2 96 6) - (1 : Int32)).toNatClampNeg))) < 0 ∨ 300 ≤ (((50 : Int32) * ((q1.2 96 6) - (1 : Int32))) + ((5 : Int32) * (q1.2 103 ((q1.2 96 6) - (1 : Int32)).toNatClampNeg))).toNatClampNeg then none else if ((((50 : Int32) * ((q1.2 96 6) - (1 : Int32))) + ((5 : Int32) * (q1.2 103 ((q1.2 96 6) - (1 : Int32)).toNatClampNeg))) + (1 : Int32)) < 0 ∨ 300 ≤ ((((50 : Int32) * ((q1.2 96 6) - (1 : Int32))) + ((5 : Int32) * (q1.2 103 ((q1.2 96 6) - (1 : Int32)).toNatClampNeg))) + (1 : Int32)).toNatClampNeg then none else if ((((50 : Int32) * ((q1.2 96 6) - (1 : Int32))) + ((5 : Int32) * (q1.2 103 ((q1.2 96 6) - (1 : Int32)).toNatClampNeg))) + (2 : Int32)) < 0 ∨ 300 ≤ ((((50 : Int32) * ((q1.2 96 6) - (1 : Int32))) + ((5 : Int32) * (q1.2 103 ((q1.2 96 6) - (1 : Int32)).toNatClampNeg))) + (2 : Int32)).toNatClampNeg then none else if ((((50 : Int32) * ((q1.2 96 6) - (1 : Int32))) + ((5 : Int32) * (q1.2 103 ((q1.2 96 6) - (1 : Int32)).toNatClampNeg))) + (3 : Int32)) < 0 ∨ 300 ≤ ((((50 : Int32) * ((q1.2 96 6) - (1 : Int32))) + ((5 : Int32) * (q1.2 103 ((q1.2 96 6) - (1 : Int32)).toNatClampNeg))) + (3 : Int32)).toNatClampNeg then none else if ((((50 : Int32) * ((q1.2 96 6) - (1 : Int32))) + ((5 : Int32) * (q1.2 103 ((q1.2 96 6) - (1 : Int32)).toNatClampNeg))) + (4 : Int32)) < 0 ∨ 300 ≤ ((((50 : Int32) * ((q1.2 96 6) - (1 : Int32))) + ((5 : Int32) * (q1.2 103 ((q1.2 96 6) - (1 : Int32)).toNatClampNeg))) + (4 : Int32)).toNatClampNeg then none else if ((q1.2 96 6) - (1 : Int32)) < 0 ∨ 6 ≤ ((q1.2 96 6) - (1 : Int32)).toNatClampNeg then none else if ((q1.2 96 6) - (1 : Int32)) < 0 ∨ 6 ≤ ((q1.2 96 6) - (1 : Int32)).toNatClampNeg then none else some ((0 : Int32), (ds_w (ds_w (ds_w (ds_w (ds_w (ds_w q1.2 104 (((50 : Int32) * ((q1.2 96 6) - (1 : Int32))) + ((5 : Int32) * (q1.2 103 ((q1.2 96 6) - (1 : Int32)).toNatClampNeg))).toNatClampNeg a1) 104 ((((50 : Int32) * ((q1.2 96 6) - (1 : Int32))) + ((5 : Int32) * (q1.2 103 ((q1.2 96 6) - (1 : Int32)).toNatClampNeg))) + (1 : Int32)).toNatClampNeg a2) 104 ((((50 : Int32) * ((q1.2 96 6) - (1 : Int32))) + ((5 : Int32) * (q1.2 103 ((q1.2 96 6) - (1 : Int32)).toNatClampNeg))) + (2 : Int32)).toNatClampNeg a3) 104 ((((50 : Int32) * ((q1.2 96 6) - (1 : Int32))) + ((5 : Int32) * (q1.2 103 ((q1.2 96 6) - (1 : Int32)).toNatClampNeg))) + (3 : Int32)).toNatClampNeg a4) 104 ((((50 : Int32) * ((q1.2 96 6) - (1 : Int32))) + ((5 : Int32) * (q1.2 103 ((q1.2 96 6) - (1 : Int32)).toNatClampNeg))) + (4 : Int32)).toNatClampNeg a5) 103 ((q1.2 96 6) - (1 : Int32)).toNatClampNeg ((q1.2 103 ((q1.2 96 6) - (1 : Int32)).toNatClampNeg) + (1 : Int32))))) else (some (q1.1, q1.2))
set_option maxRecDepth 50000 in
theorem te_145 {L : Nat} {xs : Nat → Int32} (a1 : Int32) (a2 : Int32) (a3 : Int32) (a4 : Int32) (a5 : Int32) (M : am_M) (q : Int32 × am_M) (h : fd_145 a1 a2 a3 a4 a5 M = some q) : am_ev (tb_P L xs) 145 0 [some (.ref 96), some (.int a1), some (.int a2), some (.int a3), some (.int a4), some (.int a5), none, none] [] sh_A M (some (.int q.1), sh_A, q.2) := by
  unfold fd_145 at h
  refine am_ev_go (pc' := 8) (L' := [some (.ref 96), some (.int a1), some (.int a2), some (.int a3), some (.int a4), some (.int a5), none, none]) (st' := [.int a5, .int a4, .int a3, .int a2, .int a1, .ref 96]) (sh' := sh_A) (M' := M) 6 rfl ?_
  obtain ⟨q1, hq2, h⟩ := Option.bind_eq_some_iff.mp h
  refine am_ev_call (mj := 146) (as := [.ref 96, .int a1, .int a2, .int a3, .int a4, .int a5]) (rest := []) (rv := some (.int q1.1)) (sh' := sh_A) (M' := q1.2) rfl (te_146 _ _ _ _ _ _ _ hq2) ?_
  show am_ev _ 145 11 [some (.ref 96), some (.int a1), some (.int a2), some (.int a3), some (.int a4), some (.int a5), none, none] [.int q1.1] sh_A q1.2 _
  refine am_ev_go (pc' := (am_br .eq q1.1 0 21 18)) (L' := [some (.ref 96), some (.int a1), some (.int a2), some (.int a3), some (.int a4), some (.int a5), some (.int q1.1), none]) (st' := []) (sh' := sh_A) (M' := q1.2) 3 rfl ?_
  refine ev_eq (fun hc3 => ?_) (fun hc3 => ?_)
  · rw [if_pos hc3] at h
    refine am_ev_go (pc' := 41) (L' := [some (.ref 96), some (.int a1), some (.int a2), some (.int a3), some (.int a4), some (.int a5), some (.int q1.1), none]) (st' := [.int ((q1.2 96 6) - (1 : Int32)), .ref 103, .int (5 : Int32), .int ((50 : Int32) * ((q1.2 96 6) - (1 : Int32)))]) (sh' := sh_A) (M' := q1.2) 13 rfl ?_
    by_cases hg4 : ((q1.2 96 6) - (1 : Int32)) < 0 ∨ 6 ≤ ((q1.2 96 6) - (1 : Int32)).toNatClampNeg
    case pos => rw [if_pos hg4] at h; cases h
    rw [if_neg hg4] at h
    refine ev_iald rfl rfl hg4 ?_
    refine am_ev_go (pc' := 53) (L' := [some (.ref 96), some (.int a1), some (.int a2), some (.int a3), some (.int a4), some (.int a5), some (.int q1.1), some (.int (((50 : Int32) * ((q1.2 96 6) - (1 : Int32))) + ((5 : Int32) * (q1.2 103 ((q1.2 96 6) - (1 : Int32)).toNatClampNeg))))]) (st' := [.int a1, .int (((50 : Int32) * ((q1.2 96 6) - (1 : Int32))) + ((5 : Int32) * (q1.2 103 ((q1.2 96 6) - (1 : Int32)).toNatClampNeg))), .ref 104]) (sh' := sh_A) (M' := q1.2) 7 rfl ?_
    by_cases hg5 : (((50 : Int32) * ((q1.2 96 6) - (1 : Int32))) + ((5 : Int32) * (q1.2 103 ((q1.2 96 6) - (1 : Int32)).toNatClampNeg))) < 0 ∨ 300 ≤ (((50 : Int32) * ((q1.2 96 6) - (1 : Int32))) + ((5 : Int32) * (q1.2 103 ((q1.2 96 6) - (1 : Int32)).toNatClampNeg))).toNatClampNeg
    case pos => rw [if_pos hg5] at h; cases h
    rw [if_neg hg5] at h
    refine ev_iast rfl rfl hg5 ?_
    refine am_ev_go (pc' := 63) (L' := [some (.ref 96), some (.int a1), some (.int a2), some (.int a3), some (.int a4), some (.int a5), some (.int q1.1), some (.int (((50 : Int32) * ((q1.2 96 6) - (1 : Int32))) + ((5 : Int32) * (q1.2 103 ((q1.2 96 6) - (1 : Int32)).toNatClampNeg))))]) (st' := [.int a2, .int ((((50 : Int32) * ((q1.2 96 6) - (1 : Int32))) + ((5 : Int32) * (q1.2 103 ((q1.2 96 6) - (1 : Int32)).toNatClampNeg))) + (1 : Int32)), .ref 104]) (sh' := sh_A) (M' := (ds_w q1.2 104 (((50 : Int32) * ((q1.2 96 6) - (1 : Int32))) + ((5 : Int32) * (q1.2 103 ((q1.2 96 6) - (1 : Int32)).toNatClampNeg))).toNatClampNeg a1)) 6 rfl ?_
    by_cases hg6 : ((((50 : Int32) * ((q1.2 96 6) - (1 : Int32))) + ((5 : Int32) * (q1.2 103 ((q1.2 96 6) - (1 : Int32)).toNatClampNeg))) + (1 : Int32)) < 0 ∨ 300 ≤ ((((50 : Int32) * ((q1.2 96 6) - (1 : Int32))) + ((5 : Int32) * (q1.2 103 ((q1.2 96 6) - (1 : Int32)).toNatClampNeg))) + (1 : Int32)).toNatClampNeg
    case pos => rw [if_pos hg6] at h; cases h
    rw [if_neg hg6] at h
    refine ev_iast rfl rfl hg6 ?_
    refine am_ev_go (pc' := 73) (L' := [some (.ref 96), some (.int a1), some (.int a2), some (.int a3), some (.int a4), some (.int a5), some (.int q1.1), some (.int (((50 : Int32) * ((q1.2 96 6) - (1 : Int32))) + ((5 : Int32) * (q1.2 103 ((q1.2 96 6) - (1 : Int32)).toNatClampNeg))))]) (st' := [.int a3, .int ((((50 : Int32) * ((q1.2 96 6) - (1 : Int32))) + ((5 : Int32) * (q1.2 103 ((q1.2 96 6) - (1 : Int32)).toNatClampNeg))) + (2 : Int32)), .ref 104]) (sh' := sh_A) (M' := (ds_w (ds_w q1.2 104 (((50 : Int32) * ((q1.2 96 6) - (1 : Int32))) + ((5 : Int32) * (q1.2 103 ((q1.2 96 6) - (1 : Int32)).toNatClampNeg))).toNatClampNeg a1) 104 ((((50 : Int32) * ((q1.2 96 6) - (1 : Int32))) + ((5 : Int32) * (q1.2 103 ((q1.2 96 6) - (1 : Int32)).toNatClampNeg))) + (1 : Int32)).toNatClampNeg a2)) 6 rfl ?_
    by_cases hg7 : ((((50 : Int32) * ((q1.2 96 6) - (1 : Int32))) + ((5 : Int32) * (q1.2 103 ((q1.2 96 6) - (1 : Int32)).toNatClampNeg))) + (2 : Int32)) < 0 ∨ 300 ≤ ((((50 : Int32) * ((q1.2 96 6) - (1 : Int32))) + ((5 : Int32) * (q1.2 103 ((q1.2 96 6) - (1 : Int32)).toNatClampNeg))) + (2 : Int32)).toNatClampNeg
    case pos => rw [if_pos hg7] at h; cases h
    rw [if_neg hg7] at h
    refine ev_iast rfl rfl hg7 ?_
    refine am_ev_go (pc' := 84) (L' := [some (.ref 96), some (.int a1), some (.int a2), some (.int a3), some (.int a4), some (.int a5), some (.int q1.1), some (.int (((50 : Int32) * ((q1.2 96 6) - (1 : Int32))) + ((5 : Int32) * (q1.2 103 ((q1.2 96 6) - (1 : Int32)).toNatClampNeg))))]) (st' := [.int a4, .int ((((50 : Int32) * ((q1.2 96 6) - (1 : Int32))) + ((5 : Int32) * (q1.2 103 ((q1.2 96 6) - (1 : Int32)).toNatClampNeg))) + (3 : Int32)), .ref 104]) (sh' := sh_A) (M' := (ds_w (ds_w (ds_w q1.2 104 (((50 : Int32) * ((q1.2 96 6) - (1 : Int32))) + ((5 : Int32) * (q1.2 103 ((q1.2 96 6) - (1 : Int32)).toNatClampNeg))).toNatClampNeg a1) 104 ((((50 : Int32) * ((q1.2 96 6) - (1 : Int32))) + ((5 : Int32) * (q1.2 103 ((q1.2 96 6) - (1 : Int32)).toNatClampNeg))) + (1 : Int32)).toNatClampNeg a2) 104 ((((50 : Int32) * ((q1.2 96 6) - (1 : Int32))) + ((5 : Int32) * (q1.2 103 ((q1.2 96 6) - (1 : Int32)).toNatClampNeg))) + (2 : Int32)).toNatClampNeg a3)) 6 rfl ?_
    by_cases hg8 : ((((50 : Int32) * ((q1.2 96 6) - (1 : Int32))) + ((5 : Int32) * (q1.2 103 ((q1.2 96 6) - (1 : Int32)).toNatClampNeg))) + (3 : Int32)) < 0 ∨ 300 ≤ ((((50 : Int32) * ((q1.2 96 6) - (1 : Int32))) + ((5 : Int32) * (q1.2 103 ((q1.2 96 6) - (1 : Int32)).toNatClampNeg))) + (3 : Int32)).toNatClampNeg
    case pos => rw [if_pos hg8] at h; cases h
    rw [if_neg hg8] at h
    refine ev_iast rfl rfl hg8 ?_
    refine am_ev_go (pc' := 95) (L' := [some (.ref 96), some (.int a1), some (.int a2), some (.int a3), some (.int a4), some (.int a5), some (.int q1.1), some (.int (((50 : Int32) * ((q1.2 96 6) - (1 : Int32))) + ((5 : Int32) * (q1.2 103 ((q1.2 96 6) - (1 : Int32)).toNatClampNeg))))]) (st' := [.int a5, .int ((((50 : Int32) * ((q1.2 96 6) - (1 : Int32))) + ((5 : Int32) * (q1.2 103 ((q1.2 96 6) - (1 : Int32)).toNatClampNeg))) + (4 : Int32)), .ref 104]) (sh' := sh_A) (M' := (ds_w (ds_w (ds_w (ds_w q1.2 104 (((50 : Int32) * ((q1.2 96 6) - (1 : Int32))) + ((5 : Int32) * (q1.2 103 ((q1.2 96 6) - (1 : Int32)).toNatClampNeg))).toNatClampNeg a1) 104 ((((50 : Int32) * ((q1.2 96 6) - (1 : Int32))) + ((5 : Int32) * (q1.2 103 ((q1.2 96 6) - (1 : Int32)).toNatClampNeg))) + (1 : Int32)).toNatClampNeg a2) 104 ((((50 : Int32) * ((q1.2 96 6) - (1 : Int32))) + ((5 : Int32) * (q1.2 103 ((q1.2 96 6) - (1 : Int32)).toNatClampNeg))) + (2 : Int32)).toNatClampNeg a3) 104 ((((50 : Int32) * ((q1.2 96 6) - (1 : Int32))) + ((5 : Int32) * (q1.2 103 ((q1.2 96 6) - (1 : Int32)).toNatClampNeg))) + (3 : Int32)).toNatClampNeg a4)) 6 rfl ?_
    by_cases hg9 : ((((50 : Int32) * ((q1.2 96 6) - (1 : Int32))) + ((5 : Int32) * (q1.2 103 ((q1.2 96 6) - (1 : Int32)).toNatClampNeg))) + (4 : Int32)) < 0 ∨ 300 ≤ ((((50 : Int32) * ((q1.2 96 6) - (1 : Int32))) + ((5 : Int32) * (q1.2 103 ((q1.2 96 6) - (1 : Int32)).toNatClampNeg))) + (4 : Int32)).toNatClampNeg
    case pos => rw [if_pos hg9] at h; cases h
    rw [if_neg hg9] at h
    refine ev_iast rfl rfl hg9 ?_
    refine am_ev_go (pc' := 107) (L' := [some (.ref 96), some (.int a1), some (.int a2), some (.int a3), some (.int a4), some (.int a5), some (.int q1.1), some (.int (((50 : Int32) * ((q1.2 96 6) - (1 : Int32))) + ((5 : Int32) * (q1.2 103 ((q1.2 96 6) - (1 : Int32)).toNatClampNeg))))]) (st' := [.int ((q1.2 96 6) - (1 : Int32)), .ref 103, .int ((q1.2 96 6) - (1 : Int32)), .ref 103]) (sh' := sh_A) (M' := (ds_w (ds_w (ds_w (ds_w (ds_w q1.2 104 (((50 : Int32) * ((q1.2 96 6) - (1 : Int32))) + ((5 : Int32) * (q1.2 103 ((q1.2 96 6) - (1 : Int32)).toNatClampNeg))).toNatClampNeg a1) 104 ((((50 : Int32) * ((q1.2 96 6) - (1 : Int32))) + ((5 : Int32) * (q1.2 103 ((q1.2 96 6) - (1 : Int32)).toNatClampNeg))) + (1 : Int32)).toNatClampNeg a2) 104 ((((50 : Int32) * ((q1.2 96 6) - (1 : Int32))) + ((5 : Int32) * (q1.2 103 ((q1.2 96 6) - (1 : Int32)).toNatClampNeg))) + (2 : Int32)).toNatClampNeg a3) 104 ((((50 : Int32) * ((q1.2 96 6) - (1 : Int32))) + ((5 : Int32) * (q1.2 103 ((q1.2 96 6) - (1 : Int32)).toNatClampNeg))) + (3 : Int32)).toNatClampNeg a4) 104 ((((50 : Int32) * ((q1.2 96 6) - (1 : Int32))) + ((5 : Int32) * (q1.2 103 ((q1.2 96 6) - (1 : Int32)).toNatClampNeg))) + (4 : Int32)).toNatClampNeg a5)) 7 rfl ?_
    by_cases hg10 : ((q1.2 96 6) - (1 : Int32)) < 0 ∨ 6 ≤ ((q1.2 96 6) - (1 : Int32)).toNatClampNeg
    case pos => rw [if_pos hg10] at h; cases h
    rw [if_neg hg10] at h
    refine ev_iald rfl rfl hg10 ?_
    refine am_ev_go (pc' := 110) (L' := [some (.ref 96), some (.int a1), some (.int a2), some (.int a3), some (.int a4), some (.int a5), some (.int q1.1), some (.int (((50 : Int32) * ((q1.2 96 6) - (1 : Int32))) + ((5 : Int32) * (q1.2 103 ((q1.2 96 6) - (1 : Int32)).toNatClampNeg))))]) (st' := [.int ((q1.2 103 ((q1.2 96 6) - (1 : Int32)).toNatClampNeg) + (1 : Int32)), .int ((q1.2 96 6) - (1 : Int32)), .ref 103]) (sh' := sh_A) (M' := (ds_w (ds_w (ds_w (ds_w (ds_w q1.2 104 (((50 : Int32) * ((q1.2 96 6) - (1 : Int32))) + ((5 : Int32) * (q1.2 103 ((q1.2 96 6) - (1 : Int32)).toNatClampNeg))).toNatClampNeg a1) 104 ((((50 : Int32) * ((q1.2 96 6) - (1 : Int32))) + ((5 : Int32) * (q1.2 103 ((q1.2 96 6) - (1 : Int32)).toNatClampNeg))) + (1 : Int32)).toNatClampNeg a2) 104 ((((50 : Int32) * ((q1.2 96 6) - (1 : Int32))) + ((5 : Int32) * (q1.2 103 ((q1.2 96 6) - (1 : Int32)).toNatClampNeg))) + (2 : Int32)).toNatClampNeg a3) 104 ((((50 : Int32) * ((q1.2 96 6) - (1 : Int32))) + ((5 : Int32) * (q1.2 103 ((q1.2 96 6) - (1 : Int32)).toNatClampNeg))) + (3 : Int32)).toNatClampNeg a4) 104 ((((50 : Int32) * ((q1.2 96 6) - (1 : Int32))) + ((5 : Int32) * (q1.2 103 ((q1.2 96 6) - (1 : Int32)).toNatClampNeg))) + (4 : Int32)).toNatClampNeg a5)) 2 rfl ?_
    by_cases hg11 : ((q1.2 96 6) - (1 : Int32)) < 0 ∨ 6 ≤ ((q1.2 96 6) - (1 : Int32)).toNatClampNeg
    case pos => rw [if_pos hg11] at h; cases h
    rw [if_neg hg11] at h
    refine ev_iast rfl rfl hg11 ?_
    refine am_ev_go (pc' := 112) (L' := [some (.ref 96), some (.int a1), some (.int a2), some (.int a3), some (.int a4), some (.int a5), some (.int q1.1), some (.int (((50 : Int32) * ((q1.2 96 6) - (1 : Int32))) + ((5 : Int32) * (q1.2 103 ((q1.2 96 6) - (1 : Int32)).toNatClampNeg))))]) (st' := [.int (0 : Int32)]) (sh' := sh_A) (M' := (ds_w (ds_w (ds_w (ds_w (ds_w (ds_w q1.2 104 (((50 : Int32) * ((q1.2 96 6) - (1 : Int32))) + ((5 : Int32) * (q1.2 103 ((q1.2 96 6) - (1 : Int32)).toNatClampNeg))).toNatClampNeg a1) 104 ((((50 : Int32) * ((q1.2 96 6) - (1 : Int32))) + ((5 : Int32) * (q1.2 103 ((q1.2 96 6) - (1 : Int32)).toNatClampNeg))) + (1 : Int32)).toNatClampNeg a2) 104 ((((50 : Int32) * ((q1.2 96 6) - (1 : Int32))) + ((5 : Int32) * (q1.2 103 ((q1.2 96 6) - (1 : Int32)).toNatClampNeg))) + (2 : Int32)).toNatClampNeg a3) 104 ((((50 : Int32) * ((q1.2 96 6) - (1 : Int32))) + ((5 : Int32) * (q1.2 103 ((q1.2 96 6) - (1 : Int32)).toNatClampNeg))) + (3 : Int32)).toNatClampNeg a4) 104 ((((50 : Int32) * ((q1.2 96 6) - (1 : Int32))) + ((5 : Int32) * (q1.2 103 ((q1.2 96 6) - (1 : Int32)).toNatClampNeg))) + (4 : Int32)).toNatClampNeg a5) 103 ((q1.2 96 6) - (1 : Int32)).toNatClampNeg ((q1.2 103 ((q1.2 96 6) - (1 : Int32)).toNatClampNeg) + (1 : Int32)))) 1 rfl ?_
    cases h
    exact am_ev_ret rfl
  · rw [if_neg hc3] at h
    refine am_ev_go (pc' := 20) (L' := [some (.ref 96), some (.int a1), some (.int a2), some (.int a3), some (.int a4), some (.int a5), some (.int q1.1), none]) (st' := [.int q1.1]) (sh' := sh_A) (M' := q1.2) 1 rfl ?_
    cases h
    exact am_ev_ret rfl
/-- CountedActorsModel.holds(I)I -/
def fd_153 (a1 : Int32) (M : am_M) : Option (Int32 × am_M) := if (M 96 7) = (0 : Int32) then (some ((-1 : Int32), M)) else ((fd_148 a1 (6 : Int32) M).bind fun q2 => if q2.1 = (0 : Int32) then (some ((-1 : Int32), q2.2)) else ((fd_135 q2.2).bind fun q5 => if a1 < 0 ∨ 6 ≤ a1.toNatClampNeg then none else if (q5 106 a1.toNatClampNeg) = (0 : Int32) then (if a1 < 0 ∨ 6 ≤ a1.toNatClampNeg then none else some ((q5 105 a1.toNatClampNeg), q5)) else (some ((-2 : Int32), q5))))
set_option maxRecDepth 50000 in
theorem te_153 {L : Nat} {xs : Nat → Int32} (a1 : Int32) (M : am_M) (q : Int32 × am_M) (h : fd_153 a1 M = some q) : am_ev (tb_P L xs) 153 0 [some (.ref 96), some (.int a1)] [] sh_A M (some (.int q.1), sh_A, q.2) := by
  unfold fd_153 at h
  refine am_ev_go (pc' := (am_br .eq (M 96 7) 0 16 7)) (L' := [some (.ref 96), some (.int a1)]) (st' := []) (sh' := sh_A) (M' := M) 3 rfl ?_
  refine ev_eq (fun hc1 => ?_) (fun hc1 => ?_)
  · rw [if_pos hc1] at h
    refine am_ev_go (pc' := 17) (L' := [some (.ref 96), some (.int a1)]) (st' := [.int (-1 : Int32)]) (sh' := sh_A) (M' := M) 1 rfl ?_
    cases h
    exact am_ev_ret rfl
  · rw [if_neg hc1] at h
    refine am_ev_go (pc' := 10) (L' := [some (.ref 96), some (.int a1)]) (st' := [.int (6 : Int32), .int a1]) (sh' := sh_A) (M' := M) 2 rfl ?_
    obtain ⟨q2, hq3, h⟩ := Option.bind_eq_some_iff.mp h
    refine am_ev_call (mj := 148) (as := [.int a1, .int (6 : Int32)]) (rest := []) (rv := some (.int q2.1)) (sh' := sh_A) (M' := q2.2) rfl (te_148 _ _ _ _ hq3) ?_
    show am_ev _ 153 13 [some (.ref 96), some (.int a1)] [.int q2.1] sh_A q2.2 _
    refine am_ev_go (pc' := (am_br .ne q2.1 0 18 16)) (L' := [some (.ref 96), some (.int a1)]) (st' := []) (sh' := sh_A) (M' := q2.2) 1 rfl ?_
    refine ev_ne (fun hc4 => ?_) (fun hc4 => ?_)
    · rw [if_neg hc4] at h
      refine am_ev_go (pc' := 19) (L' := [some (.ref 96), some (.int a1)]) (st' := [.ref 96]) (sh' := sh_A) (M' := q2.2) 1 rfl ?_
      obtain ⟨q5, hq6, h⟩ := Option.bind_eq_some_iff.mp h
      refine am_ev_call (mj := 135) (as := [.ref 96]) (rest := []) (rv := none) (sh' := sh_A) (M' := q5) rfl (te_135 _ _ hq6) ?_
      show am_ev _ 153 22 [some (.ref 96), some (.int a1)] [] sh_A q5 _
      refine am_ev_go (pc' := 27) (L' := [some (.ref 96), some (.int a1)]) (st' := [.int a1, .ref 106]) (sh' := sh_A) (M' := q5) 3 rfl ?_
      by_cases hg7 : a1 < 0 ∨ 6 ≤ a1.toNatClampNeg
      case pos => rw [if_pos hg7] at h; cases h
      rw [if_neg hg7] at h
      refine ev_bald rfl rfl hg7 ?_
      refine am_ev_go (pc' := (am_br .eq (q5 106 a1.toNatClampNeg) 0 36 31)) (L' := [some (.ref 96), some (.int a1)]) (st' := []) (sh' := sh_A) (M' := q5) 1 rfl ?_
      refine ev_eq (fun hc8 => ?_) (fun hc8 => ?_)
      · rw [if_pos hc8] at h
        refine am_ev_go (pc' := 41) (L' := [some (.ref 96), some (.int a1)]) (st' := [.int a1, .ref 105]) (sh' := sh_A) (M' := q5) 3 rfl ?_
        by_cases hg9 : a1 < 0 ∨ 6 ≤ a1.toNatClampNeg
        case pos => rw [if_pos hg9] at h; cases h
        rw [if_neg hg9] at h
        refine ev_iald rfl rfl hg9 ?_
        cases h
        exact am_ev_ret rfl
      · rw [if_neg hc8] at h
        refine am_ev_go (pc' := 42) (L' := [some (.ref 96), some (.int a1)]) (st' := [.int (-2 : Int32)]) (sh' := sh_A) (M' := q5) 2 rfl ?_
        cases h
        exact am_ev_ret rfl
    · rw [if_pos hc4] at h
      refine am_ev_go (pc' := 17) (L' := [some (.ref 96), some (.int a1)]) (st' := [.int (-1 : Int32)]) (sh' := sh_A) (M' := q2.2) 1 rfl ?_
      cases h
      exact am_ev_ret rfl
/-- CountedActorsModel.say(IIII)V -/
def fd_155 (a1 : Int32) (a2 : Int32) (a3 : Int32) (a4 : Int32) (M : am_M) : Option (am_M) := if (M 96 15) < 0 ∨ 20 ≤ (M 96 15).toNatClampNeg then none else if (M 96 15) < 0 ∨ 20 ≤ (M 96 15).toNatClampNeg then none else if (M 96 15) < 0 ∨ 20 ≤ (M 96 15).toNatClampNeg then none else if (M 96 15) < 0 ∨ 20 ≤ (M 96 15).toNatClampNeg then none else some (ds_w (ds_w (ds_w (ds_w (ds_w M 108 (M 96 15).toNatClampNeg a1) 109 (M 96 15).toNatClampNeg a2) 110 (M 96 15).toNatClampNeg a3) 111 (M 96 15).toNatClampNeg a4) 96 15 ((M 96 15) + (1 : Int32)))
set_option maxRecDepth 50000 in
theorem te_155 {L : Nat} {xs : Nat → Int32} (a1 : Int32) (a2 : Int32) (a3 : Int32) (a4 : Int32) (M : am_M) (q : am_M) (h : fd_155 a1 a2 a3 a4 M = some q) : am_ev (tb_P L xs) 155 0 [some (.ref 96), some (.int a1), some (.int a2), some (.int a3), some (.int a4)] [] sh_A M (none, sh_A, q) := by
  unfold fd_155 at h
  refine am_ev_go (pc' := 9) (L' := [some (.ref 96), some (.int a1), some (.int a2), some (.int a3), some (.int a4)]) (st' := [.int a1, .int (M 96 15), .ref 108]) (sh' := sh_A) (M' := M) 5 rfl ?_
  by_cases hg1 : (M 96 15) < 0 ∨ 20 ≤ (M 96 15).toNatClampNeg
  case pos => rw [if_pos hg1] at h; cases h
  rw [if_neg hg1] at h
  refine ev_iast rfl rfl hg1 ?_
  refine am_ev_go (pc' := 19) (L' := [some (.ref 96), some (.int a1), some (.int a2), some (.int a3), some (.int a4)]) (st' := [.int a2, .int (M 96 15), .ref 109]) (sh' := sh_A) (M' := (ds_w M 108 (M 96 15).toNatClampNeg a1)) 5 rfl ?_
  by_cases hg2 : (M 96 15) < 0 ∨ 20 ≤ (M 96 15).toNatClampNeg
  case pos => rw [if_pos hg2] at h; cases h
  rw [if_neg hg2] at h
  refine ev_iast rfl rfl hg2 ?_
  refine am_ev_go (pc' := 29) (L' := [some (.ref 96), some (.int a1), some (.int a2), some (.int a3), some (.int a4)]) (st' := [.int a3, .int (M 96 15), .ref 110]) (sh' := sh_A) (M' := (ds_w (ds_w M 108 (M 96 15).toNatClampNeg a1) 109 (M 96 15).toNatClampNeg a2)) 5 rfl ?_
  by_cases hg3 : (M 96 15) < 0 ∨ 20 ≤ (M 96 15).toNatClampNeg
  case pos => rw [if_pos hg3] at h; cases h
  rw [if_neg hg3] at h
  refine ev_iast rfl rfl hg3 ?_
  refine am_ev_go (pc' := 40) (L' := [some (.ref 96), some (.int a1), some (.int a2), some (.int a3), some (.int a4)]) (st' := [.int a4, .int (M 96 15), .ref 111]) (sh' := sh_A) (M' := (ds_w (ds_w (ds_w M 108 (M 96 15).toNatClampNeg a1) 109 (M 96 15).toNatClampNeg a2) 110 (M 96 15).toNatClampNeg a3)) 5 rfl ?_
  by_cases hg4 : (M 96 15) < 0 ∨ 20 ≤ (M 96 15).toNatClampNeg
  case pos => rw [if_pos hg4] at h; cases h
  rw [if_neg hg4] at h
  refine ev_iast rfl rfl hg4 ?_
  refine am_ev_go (pc' := 51) (L' := [some (.ref 96), some (.int a1), some (.int a2), some (.int a3), some (.int a4)]) (st' := []) (sh' := sh_A) (M' := (ds_w (ds_w (ds_w (ds_w (ds_w M 108 (M 96 15).toNatClampNeg a1) 109 (M 96 15).toNatClampNeg a2) 110 (M 96 15).toNatClampNeg a3) 111 (M 96 15).toNatClampNeg a4) 96 15 ((M 96 15) + (1 : Int32)))) 6 rfl ?_
  cases h
  exact am_ev_ret rfl
def fd_154_32 (x1 : Int32) (x2 : Int32) (y0 : Int32) (y1 : Int32) (M : am_M) : Option (Int32 × am_M) := (fd_148 y0 y1 M).bind fun q1 => if q1.1 = (0 : Int32) then (some ((0 : Int32), q1.2)) else (if (q1.2 96 15) = (20 : Int32) then (some ((0 : Int32), q1.2)) else ((fd_155 (0 : Int32) x1 x2 (-1 : Int32) q1.2).bind fun q5 => some ((1 : Int32), q5)))
set_option maxRecDepth 50000 in
theorem te_154_32 {L : Nat} {xs : Nat → Int32} (x1 : Int32) (x2 : Int32) (y0 : Int32) (y1 : Int32) (M : am_M) (q : Int32 × am_M) (h : fd_154_32 x1 x2 y0 y1 M = some q) : am_ev (tb_P L xs) 154 32 [some (.ref 96), some (.int x1), some (.int x2)] [.int y1, .int y0] sh_A M (some (.int q.1), sh_A, q.2) := by
  unfold fd_154_32 at h
  obtain ⟨q1, hq2, h⟩ := Option.bind_eq_some_iff.mp h
  refine am_ev_call (mj := 148) (as := [.int y0, .int y1]) (rest := []) (rv := some (.int q1.1)) (sh' := sh_A) (M' := q1.2) rfl (te_148 _ _ _ _ hq2) ?_
  show am_ev _ 154 35 [some (.ref 96), some (.int x1), some (.int x2)] [.int q1.1] sh_A q1.2 _
  refine am_ev_go (pc' := (am_br .eq q1.1 0 47 38)) (L' := [some (.ref 96), some (.int x1), some (.int x2)]) (st' := []) (sh' := sh_A) (M' := q1.2) 1 rfl ?_
  refine ev_eq (fun hc3 => ?_) (fun hc3 => ?_)
  · rw [if_pos hc3] at h
    refine am_ev_go (pc' := 48) (L' := [some (.ref 96), some (.int x1), some (.int x2)]) (st' := [.int (0 : Int32)]) (sh' := sh_A) (M' := q1.2) 1 rfl ?_
    cases h
    exact am_ev_ret rfl
  · rw [if_neg hc3] at h
    refine am_ev_go (pc' := (am_br .ne (q1.2 96 15) (20 : Int32) 49 47)) (L' := [some (.ref 96), some (.int x1), some (.int x2)]) (st' := []) (sh' := sh_A) (M' := q1.2) 4 rfl ?_
    refine ev_ne (fun hc4 => ?_) (fun hc4 => ?_)
    · rw [if_neg hc4] at h
      refine am_ev_go (pc' := 54) (L' := [some (.ref 96), some (.int x1), some (.int x2)]) (st' := [.int (-1 : Int32), .int x2, .int x1, .int (0 : Int32), .ref 96]) (sh' := sh_A) (M' := q1.2) 5 rfl ?_
      obtain ⟨q5, hq6, h⟩ := Option.bind_eq_some_iff.mp h
      refine am_ev_call (mj := 155) (as := [.ref 96, .int (0 : Int32), .int x1, .int x2, .int (-1 : Int32)]) (rest := []) (rv := none) (sh' := sh_A) (M' := q5) rfl (te_155 _ _ _ _ _ _ hq6) ?_
      show am_ev _ 154 57 [some (.ref 96), some (.int x1), some (.int x2)] [] sh_A q5 _
      refine am_ev_go (pc' := 58) (L' := [some (.ref 96), some (.int x1), some (.int x2)]) (st' := [.int (1 : Int32)]) (sh' := sh_A) (M' := q5) 1 rfl ?_
      cases h
      exact am_ev_ret rfl
    · rw [if_pos hc4] at h
      refine am_ev_go (pc' := 48) (L' := [some (.ref 96), some (.int x1), some (.int x2)]) (st' := [.int (0 : Int32)]) (sh' := sh_A) (M' := q1.2) 1 rfl ?_
      cases h
      exact am_ev_ret rfl
/-- CountedActorsModel.post(II)Z -/
def fd_154 (a1 : Int32) (a2 : Int32) (M : am_M) : Option (Int32 × am_M) := (fd_148 a1 (M 96 0) M).bind fun q1 => if q1.1 = (0 : Int32) then (some ((0 : Int32), q1.2)) else (if (q1.2 96 7) = (0 : Int32) then (fd_154_32 a1 a2 a2 (q1.2 96 6) q1.2) else (fd_154_32 a1 a2 a2 ((q1.2 96 6) - (1 : Int32)) q1.2))
set_option maxRecDepth 50000 in
theorem te_154 {L : Nat} {xs : Nat → Int32} (a1 : Int32) (a2 : Int32) (M : am_M) (q : Int32 × am_M) (h : fd_154 a1 a2 M = some q) : am_ev (tb_P L xs) 154 0 [some (.ref 96), some (.int a1), some (.int a2)] [] sh_A M (some (.int q.1), sh_A, q.2) := by
  unfold fd_154 at h
  refine am_ev_go (pc' := 5) (L' := [some (.ref 96), some (.int a1), some (.int a2)]) (st' := [.int (M 96 0), .int a1]) (sh' := sh_A) (M' := M) 3 rfl ?_
  obtain ⟨q1, hq2, h⟩ := Option.bind_eq_some_iff.mp h
  refine am_ev_call (mj := 148) (as := [.int a1, .int (M 96 0)]) (rest := []) (rv := some (.int q1.1)) (sh' := sh_A) (M' := q1.2) rfl (te_148 _ _ _ _ hq2) ?_
  show am_ev _ 154 8 [some (.ref 96), some (.int a1), some (.int a2)] [.int q1.1] sh_A q1.2 _
  refine am_ev_go (pc' := (am_br .eq q1.1 0 47 11)) (L' := [some (.ref 96), some (.int a1), some (.int a2)]) (st' := []) (sh' := sh_A) (M' := q1.2) 1 rfl ?_
  refine ev_eq (fun hc3 => ?_) (fun hc3 => ?_)
  · rw [if_pos hc3] at h
    refine am_ev_go (pc' := 48) (L' := [some (.ref 96), some (.int a1), some (.int a2)]) (st' := [.int (0 : Int32)]) (sh' := sh_A) (M' := q1.2) 1 rfl ?_
    cases h
    exact am_ev_ret rfl
  · rw [if_neg hc3] at h
    refine am_ev_go (pc' := (am_br .eq (q1.2 96 7) 0 28 19)) (L' := [some (.ref 96), some (.int a1), some (.int a2)]) (st' := [.int a2]) (sh' := sh_A) (M' := q1.2) 4 rfl ?_
    refine ev_eq (fun hc4 => ?_) (fun hc4 => ?_)
    · rw [if_pos hc4] at h
      refine am_ev_go (pc' := 32) (L' := [some (.ref 96), some (.int a1), some (.int a2)]) (st' := [.int (q1.2 96 6), .int a2]) (sh' := sh_A) (M' := q1.2) 2 rfl ?_
      exact te_154_32 _ _ _ _ _ _ h
    · rw [if_neg hc4] at h
      refine am_ev_go (pc' := 32) (L' := [some (.ref 96), some (.int a1), some (.int a2)]) (st' := [.int ((q1.2 96 6) - (1 : Int32)), .int a2]) (sh' := sh_A) (M' := q1.2) 5 rfl ?_
      exact te_154_32 _ _ _ _ _ _ h
def fd_157_2 (f : Nat) : Int32 → am_M → Option (am_M) := Nat.rec (motive := fun _ => Int32 → am_M → Option (am_M)) (fun _ _ => none) (fun _ k2 => fun x2 M => if (M 96 15) ≤ (x2 + (1 : Int32)) then (some (ds_w M 96 15 ((M 96 15) - (1 : Int32)))) else (if (x2 + (1 : Int32)) < 0 ∨ 20 ≤ (x2 + (1 : Int32)).toNatClampNeg then none else if x2 < 0 ∨ 20 ≤ x2.toNatClampNeg then none else if (x2 + (1 : Int32)) < 0 ∨ 20 ≤ (x2 + (1 : Int32)).toNatClampNeg then none else if x2 < 0 ∨ 20 ≤ x2.toNatClampNeg then none else if (x2 + (1 : Int32)) < 0 ∨ 20 ≤ (x2 + (1 : Int32)).toNatClampNeg then none else if x2 < 0 ∨ 20 ≤ x2.toNatClampNeg then none else if (x2 + (1 : Int32)) < 0 ∨ 20 ≤ (x2 + (1 : Int32)).toNatClampNeg then none else if x2 < 0 ∨ 20 ≤ x2.toNatClampNeg then none else k2 (x2 + (1 : Int32)) (ds_w (ds_w (ds_w (ds_w M 108 x2.toNatClampNeg (M 108 (x2 + (1 : Int32)).toNatClampNeg)) 109 x2.toNatClampNeg (M 109 (x2 + (1 : Int32)).toNatClampNeg)) 110 x2.toNatClampNeg (M 110 (x2 + (1 : Int32)).toNatClampNeg)) 111 x2.toNatClampNeg (M 111 (x2 + (1 : Int32)).toNatClampNeg)))) f
set_option maxRecDepth 50000 in
theorem te_157_2 {L : Nat} {xs : Nat → Int32} : ∀ (f : Nat) (x2 : Int32) (M : am_M) (q : am_M) (d1 : Option Value), fd_157_2 f x2 M = some q → am_ev (tb_P L xs) 157 2 [some (.ref 96), d1, some (.int x2)] [] sh_A M (none, sh_A, q) := by
  intro f
  induction f with
  | zero => intro x2 M q d1 h; cases h
  | succ f hk2 =>
    intro x2 M q d1 h
    change (if (M 96 15) ≤ (x2 + (1 : Int32)) then (some (ds_w M 96 15 ((M 96 15) - (1 : Int32)))) else (if (x2 + (1 : Int32)) < 0 ∨ 20 ≤ (x2 + (1 : Int32)).toNatClampNeg then none else if x2 < 0 ∨ 20 ≤ x2.toNatClampNeg then none else if (x2 + (1 : Int32)) < 0 ∨ 20 ≤ (x2 + (1 : Int32)).toNatClampNeg then none else if x2 < 0 ∨ 20 ≤ x2.toNatClampNeg then none else if (x2 + (1 : Int32)) < 0 ∨ 20 ≤ (x2 + (1 : Int32)).toNatClampNeg then none else if x2 < 0 ∨ 20 ≤ x2.toNatClampNeg then none else if (x2 + (1 : Int32)) < 0 ∨ 20 ≤ (x2 + (1 : Int32)).toNatClampNeg then none else if x2 < 0 ∨ 20 ≤ x2.toNatClampNeg then none else (fd_157_2 f) (x2 + (1 : Int32)) (ds_w (ds_w (ds_w (ds_w M 108 x2.toNatClampNeg (M 108 (x2 + (1 : Int32)).toNatClampNeg)) 109 x2.toNatClampNeg (M 109 (x2 + (1 : Int32)).toNatClampNeg)) 110 x2.toNatClampNeg (M 110 (x2 + (1 : Int32)).toNatClampNeg)) 111 x2.toNatClampNeg (M 111 (x2 + (1 : Int32)).toNatClampNeg)))) = some q at h
    refine am_ev_go (pc' := (am_br .ge (x2 + (1 : Int32)) (M 96 15) 74 12)) (L' := [some (.ref 96), d1, some (.int x2)]) (st' := []) (sh' := sh_A) (M' := M) 6 rfl ?_
    refine ev_ge (fun hc1 => ?_) (fun hc1 => ?_)
    · rw [if_pos hc1] at h
      refine am_ev_go (pc' := 84) (L' := [some (.ref 96), d1, some (.int x2)]) (st' := []) (sh' := sh_A) (M' := (ds_w M 96 15 ((M 96 15) - (1 : Int32)))) 6 rfl ?_
      cases h
      exact am_ev_ret rfl
    · rw [if_neg hc1] at h
      refine am_ev_go (pc' := 24) (L' := [some (.ref 96), d1, some (.int x2)]) (st' := [.int (x2 + (1 : Int32)), .ref 108, .int x2, .ref 108]) (sh' := sh_A) (M' := M) 8 rfl ?_
      by_cases hg2 : (x2 + (1 : Int32)) < 0 ∨ 20 ≤ (x2 + (1 : Int32)).toNatClampNeg
      case pos => rw [if_pos hg2] at h; cases h
      rw [if_neg hg2] at h
      refine ev_iald rfl rfl hg2 ?_
      by_cases hg3 : x2 < 0 ∨ 20 ≤ x2.toNatClampNeg
      case pos => rw [if_pos hg3] at h; cases h
      rw [if_neg hg3] at h
      refine ev_iast rfl rfl hg3 ?_
      refine am_ev_go (pc' := 38) (L' := [some (.ref 96), d1, some (.int x2)]) (st' := [.int (x2 + (1 : Int32)), .ref 109, .int x2, .ref 109]) (sh' := sh_A) (M' := (ds_w M 108 x2.toNatClampNeg (M 108 (x2 + (1 : Int32)).toNatClampNeg))) 8 rfl ?_
      by_cases hg4 : (x2 + (1 : Int32)) < 0 ∨ 20 ≤ (x2 + (1 : Int32)).toNatClampNeg
      case pos => rw [if_pos hg4] at h; cases h
      rw [if_neg hg4] at h
      refine ev_iald rfl rfl hg4 ?_
      by_cases hg5 : x2 < 0 ∨ 20 ≤ x2.toNatClampNeg
      case pos => rw [if_pos hg5] at h; cases h
      rw [if_neg hg5] at h
      refine ev_iast rfl rfl hg5 ?_
      refine am_ev_go (pc' := 52) (L' := [some (.ref 96), d1, some (.int x2)]) (st' := [.int (x2 + (1 : Int32)), .ref 110, .int x2, .ref 110]) (sh' := sh_A) (M' := (ds_w (ds_w M 108 x2.toNatClampNeg (M 108 (x2 + (1 : Int32)).toNatClampNeg)) 109 x2.toNatClampNeg (M 109 (x2 + (1 : Int32)).toNatClampNeg))) 8 rfl ?_
      by_cases hg6 : (x2 + (1 : Int32)) < 0 ∨ 20 ≤ (x2 + (1 : Int32)).toNatClampNeg
      case pos => rw [if_pos hg6] at h; cases h
      rw [if_neg hg6] at h
      refine ev_iald rfl rfl hg6 ?_
      by_cases hg7 : x2 < 0 ∨ 20 ≤ x2.toNatClampNeg
      case pos => rw [if_pos hg7] at h; cases h
      rw [if_neg hg7] at h
      refine ev_iast rfl rfl hg7 ?_
      refine am_ev_go (pc' := 66) (L' := [some (.ref 96), d1, some (.int x2)]) (st' := [.int (x2 + (1 : Int32)), .ref 111, .int x2, .ref 111]) (sh' := sh_A) (M' := (ds_w (ds_w (ds_w M 108 x2.toNatClampNeg (M 108 (x2 + (1 : Int32)).toNatClampNeg)) 109 x2.toNatClampNeg (M 109 (x2 + (1 : Int32)).toNatClampNeg)) 110 x2.toNatClampNeg (M 110 (x2 + (1 : Int32)).toNatClampNeg))) 8 rfl ?_
      by_cases hg8 : (x2 + (1 : Int32)) < 0 ∨ 20 ≤ (x2 + (1 : Int32)).toNatClampNeg
      case pos => rw [if_pos hg8] at h; cases h
      rw [if_neg hg8] at h
      refine ev_iald rfl rfl hg8 ?_
      by_cases hg9 : x2 < 0 ∨ 20 ≤ x2.toNatClampNeg
      case pos => rw [if_pos hg9] at h; cases h
      rw [if_neg hg9] at h
      refine ev_iast rfl rfl hg9 ?_
      refine am_ev_go (pc' := 2) (L' := [some (.ref 96), d1, some (.int (x2 + (1 : Int32)))]) (st' := []) (sh' := sh_A) (M' := (ds_w (ds_w (ds_w (ds_w M 108 x2.toNatClampNeg (M 108 (x2 + (1 : Int32)).toNatClampNeg)) 109 x2.toNatClampNeg (M 109 (x2 + (1 : Int32)).toNatClampNeg)) 110 x2.toNatClampNeg (M 110 (x2 + (1 : Int32)).toNatClampNeg)) 111 x2.toNatClampNeg (M 111 (x2 + (1 : Int32)).toNatClampNeg))) 2 rfl ?_
      exact hk2 _ _ _ _ h
/-- CountedActorsModel.forget(I)V -/
def fd_157 (a1 : Int32) (M : am_M) : Option (am_M) := fd_157_2 1000 a1 M
set_option maxRecDepth 50000 in
theorem te_157 {L : Nat} {xs : Nat → Int32} (a1 : Int32) (M : am_M) (q : am_M) (h : fd_157 a1 M = some q) : am_ev (tb_P L xs) 157 0 [some (.ref 96), some (.int a1), none] [] sh_A M (none, sh_A, q) := by
  unfold fd_157 at h
  refine am_ev_go (pc' := 2) (L' := [some (.ref 96), some (.int a1), some (.int a1)]) (st' := []) (sh' := sh_A) (M' := M) 2 rfl ?_
  exact te_157_2 1000 _ _ _ _ h
def fd_158_2 (f : Nat) : Int32 → am_M → Option (am_M) := Nat.rec (motive := fun _ => Int32 → am_M → Option (am_M)) (fun _ _ => none) (fun _ k2 => fun x1 M => if (16 : Int32) ≤ x1 then (some M) else (if x1 < 0 ∨ 16 ≤ x1.toNatClampNeg then none else if x1 < 0 ∨ 16 ≤ x1.toNatClampNeg then none else k2 (x1 + (1 : Int32)) (ds_w (ds_w M 112 x1.toNatClampNeg ((0 : Int32) &&& 1)) 113 x1.toNatClampNeg ((0 : Int32) &&& 1)))) f
set_option maxRecDepth 50000 in
theorem te_158_2 {L : Nat} {xs : Nat → Int32} : ∀ (f : Nat) (x1 : Int32) (M : am_M) (q : am_M), fd_158_2 f x1 M = some q → am_ev (tb_P L xs) 158 2 [some (.ref 96), some (.int x1)] [] sh_A M (none, sh_A, q) := by
  intro f
  induction f with
  | zero => intro x1 M q h; cases h
  | succ f hk2 =>
    intro x1 M q h
    change (if (16 : Int32) ≤ x1 then (some M) else (if x1 < 0 ∨ 16 ≤ x1.toNatClampNeg then none else if x1 < 0 ∨ 16 ≤ x1.toNatClampNeg then none else (fd_158_2 f) (x1 + (1 : Int32)) (ds_w (ds_w M 112 x1.toNatClampNeg ((0 : Int32) &&& 1)) 113 x1.toNatClampNeg ((0 : Int32) &&& 1)))) = some q at h
    refine am_ev_go (pc' := (am_br .ge x1 (16 : Int32) 28 8)) (L' := [some (.ref 96), some (.int x1)]) (st' := []) (sh' := sh_A) (M' := M) 3 rfl ?_
    refine ev_ge (fun hc1 => ?_) (fun hc1 => ?_)
    · rw [if_pos hc1] at h
      cases h
      exact am_ev_ret rfl
    · rw [if_neg hc1] at h
      refine am_ev_go (pc' := 14) (L' := [some (.ref 96), some (.int x1)]) (st' := [.int (0 : Int32), .int x1, .ref 112]) (sh' := sh_A) (M' := M) 4 rfl ?_
      by_cases hg2 : x1 < 0 ∨ 16 ≤ x1.toNatClampNeg
      case pos => rw [if_pos hg2] at h; cases h
      rw [if_neg hg2] at h
      refine ev_bast rfl rfl hg2 ?_
      refine am_ev_go (pc' := 21) (L' := [some (.ref 96), some (.int x1)]) (st' := [.int (0 : Int32), .int x1, .ref 113]) (sh' := sh_A) (M' := (ds_w M 112 x1.toNatClampNeg ((0 : Int32) &&& 1))) 4 rfl ?_
      by_cases hg3 : x1 < 0 ∨ 16 ≤ x1.toNatClampNeg
      case pos => rw [if_pos hg3] at h; cases h
      rw [if_neg hg3] at h
      refine ev_bast rfl rfl hg3 ?_
      refine am_ev_go (pc' := 2) (L' := [some (.ref 96), some (.int (x1 + (1 : Int32)))]) (st' := []) (sh' := sh_A) (M' := (ds_w (ds_w M 112 x1.toNatClampNeg ((0 : Int32) &&& 1)) 113 x1.toNatClampNeg ((0 : Int32) &&& 1))) 2 rfl ?_
      exact hk2 _ _ _ h
/-- CountedActorsModel.clear()V -/
def fd_158 (M : am_M) : Option (am_M) := fd_158_2 1000 (0 : Int32) M
set_option maxRecDepth 50000 in
theorem te_158 {L : Nat} {xs : Nat → Int32} (M : am_M) (q : am_M) (h : fd_158  M = some q) : am_ev (tb_P L xs) 158 0 [some (.ref 96), none] [] sh_A M (none, sh_A, q) := by
  unfold fd_158 at h
  refine am_ev_go (pc' := 2) (L' := [some (.ref 96), some (.int (0 : Int32))]) (st' := []) (sh' := sh_A) (M' := M) 2 rfl ?_
  exact te_158_2 1000 _ _ _ h
def fd_159_37 (y1 : Int32) (y2 : Int32) (M : am_M) : Option (am_M) := if y1 < 0 ∨ 16 ≤ y1.toNatClampNeg then none else some (ds_w M 113 y1.toNatClampNeg (y2 &&& 1))
set_option maxRecDepth 50000 in
theorem te_159_37 {L : Nat} {xs : Nat → Int32} (y1 : Int32) (y2 : Int32) (M : am_M) (q : am_M) (d0 d1 d2 : Option Value) (h : fd_159_37 y1 y2 M = some q) : am_ev (tb_P L xs) 159 37 [d0, d1, d2] [.int y2, .int y1, .ref 113] sh_A M (none, sh_A, q) := by
  unfold fd_159_37 at h
  by_cases hg1 : y1 < 0 ∨ 16 ≤ y1.toNatClampNeg
  case pos => rw [if_pos hg1] at h; cases h
  rw [if_neg hg1] at h
  refine ev_bast rfl rfl hg1 ?_
  cases h
  exact am_ev_ret rfl
def fd_159_32 (y1 : Int32) (M : am_M) : Option (am_M) := fd_159_37 y1 (1 : Int32) M
set_option maxRecDepth 50000 in
theorem te_159_32 {L : Nat} {xs : Nat → Int32} (y1 : Int32) (M : am_M) (q : am_M) (d0 d1 d2 : Option Value) (h : fd_159_32 y1 M = some q) : am_ev (tb_P L xs) 159 32 [d0, d1, d2] [.int y1, .ref 113] sh_A M (none, sh_A, q) := by
  unfold fd_159_32 at h
  refine am_ev_go (pc' := 37) (L' := [d0, d1, d2]) (st' := [.int (1 : Int32), .int y1, .ref 113]) (sh' := sh_A) (M' := M) 2 rfl ?_
  exact te_159_37 _ _ _ _ _ _ _ h
/-- CountedActorsModel.root(II)V -/
def fd_159 (a1 : Int32) (a2 : Int32) (M : am_M) : Option (am_M) := if a1 = (-1 : Int32) then (some M) else (if a1 < 0 ∨ 16 ≤ a1.toNatClampNeg then none else if a1 < 0 ∨ 16 ≤ a1.toNatClampNeg then none else if (M 113 a1.toNatClampNeg) = (0 : Int32) then (if a2 = (5 : Int32) then (fd_159_37 a1 (0 : Int32) (ds_w M 112 a1.toNatClampNeg ((1 : Int32) &&& 1))) else (fd_159_32 a1 (ds_w M 112 a1.toNatClampNeg ((1 : Int32) &&& 1)))) else (fd_159_32 a1 (ds_w M 112 a1.toNatClampNeg ((1 : Int32) &&& 1))))
set_option maxRecDepth 50000 in
theorem te_159 {L : Nat} {xs : Nat → Int32} (a1 : Int32) (a2 : Int32) (M : am_M) (q : am_M) (h : fd_159 a1 a2 M = some q) : am_ev (tb_P L xs) 159 0 [some (.ref 96), some (.int a1), some (.int a2)] [] sh_A M (none, sh_A, q) := by
  unfold fd_159 at h
  refine am_ev_go (pc' := (am_br .ne a1 (-1 : Int32) 6 5)) (L' := [some (.ref 96), some (.int a1), some (.int a2)]) (st' := []) (sh' := sh_A) (M' := M) 3 rfl ?_
  refine ev_ne (fun hc1 => ?_) (fun hc1 => ?_)
  · rw [if_neg hc1] at h
    refine am_ev_go (pc' := 12) (L' := [some (.ref 96), some (.int a1), some (.int a2)]) (st' := [.int (1 : Int32), .int a1, .ref 112]) (sh' := sh_A) (M' := M) 4 rfl ?_
    by_cases hg2 : a1 < 0 ∨ 16 ≤ a1.toNatClampNeg
    case pos => rw [if_pos hg2] at h; cases h
    rw [if_neg hg2] at h
    refine ev_bast rfl rfl hg2 ?_
    refine am_ev_go (pc' := 23) (L' := [some (.ref 96), some (.int a1), some (.int a2)]) (st' := [.int a1, .ref 113, .int a1, .ref 113]) (sh' := sh_A) (M' := (ds_w M 112 a1.toNatClampNeg ((1 : Int32) &&& 1))) 6 rfl ?_
    by_cases hg3 : a1 < 0 ∨ 16 ≤ a1.toNatClampNeg
    case pos => rw [if_pos hg3] at h; cases h
    rw [if_neg hg3] at h
    refine ev_bald rfl rfl hg3 ?_
    refine am_ev_go (pc' := (am_br .ne (M 113 a1.toNatClampNeg) 0 32 27)) (L' := [some (.ref 96), some (.int a1), some (.int a2)]) (st' := [.int a1, .ref 113]) (sh' := sh_A) (M' := (ds_w M 112 a1.toNatClampNeg ((1 : Int32) &&& 1))) 1 rfl ?_
    refine ev_ne (fun hc4 => ?_) (fun hc4 => ?_)
    · rw [if_neg hc4] at h
      exact te_159_32 _ _ _ _ _ _ h
    · rw [if_pos hc4] at h
      refine am_ev_go (pc' := (am_br .eq a2 (5 : Int32) 36 32)) (L' := [some (.ref 96), some (.int a1), some (.int a2)]) (st' := [.int a1, .ref 113]) (sh' := sh_A) (M' := (ds_w M 112 a1.toNatClampNeg ((1 : Int32) &&& 1))) 3 rfl ?_
      refine ev_eq (fun hc5 => ?_) (fun hc5 => ?_)
      · rw [if_pos hc5] at h
        refine am_ev_go (pc' := 37) (L' := [some (.ref 96), some (.int a1), some (.int a2)]) (st' := [.int (0 : Int32), .int a1, .ref 113]) (sh' := sh_A) (M' := (ds_w M 112 a1.toNatClampNeg ((1 : Int32) &&& 1))) 1 rfl ?_
        exact te_159_37 _ _ _ _ _ _ _ h
      · rw [if_neg hc5] at h
        exact te_159_32 _ _ _ _ _ _ h
  · rw [if_pos hc1] at h
    cases h
    exact am_ev_ret rfl
def fd_160_42 (k10 : Int32 → Int32 → am_M → Option (am_M)) (x1 : Int32) (x2 : Int32) (M : am_M) : Option (am_M) := k10 x1 (x2 + (1 : Int32)) M
set_option maxRecDepth 50000 in
theorem te_160_42 {L : Nat} {xs : Nat → Int32} {k10 : Int32 → Int32 → am_M → Option (am_M)} (hk10 : ∀ (x1 : Int32) (x2 : Int32) (M : am_M) (q : am_M), k10 x1 x2 M = some q → am_ev (tb_P L xs) 160 10 [some (.ref 96), some (.int x1), some (.int x2)] [] sh_A M (none, sh_A, q)) (x1 : Int32) (x2 : Int32) (M : am_M) (q : am_M) (h : fd_160_42 k10 x1 x2 M = some q) : am_ev (tb_P L xs) 160 42 [some (.ref 96), some (.int x1), some (.int x2)] [] sh_A M (none, sh_A, q) := by
  unfold fd_160_42 at h
  refine am_ev_go (pc' := 10) (L' := [some (.ref 96), some (.int x1), some (.int (x2 + (1 : Int32)))]) (st' := []) (sh' := sh_A) (M' := M) 2 rfl ?_
  exact hk10 _ _ _ _ h
def fd_160_10 (k2 : Int32 → am_M → Option (am_M)) (f : Nat) : Int32 → Int32 → am_M → Option (am_M) := Nat.rec (motive := fun _ => Int32 → Int32 → am_M → Option (am_M)) (fun _ _ _ => none) (fun _ k10 => fun x1 x2 M => if (96 : Int32) ≤ x2 then (k2 (x1 + (1 : Int32)) M) else (if (x2 / (6 : Int32)) < 0 ∨ 16 ≤ (x2 / (6 : Int32)).toNatClampNeg then none else if (M 113 (x2 / (6 : Int32)).toNatClampNeg) = (0 : Int32) then (fd_160_42 k10 x1 x2 M) else (if x2 < 0 ∨ 96 ≤ x2.toNatClampNeg then none else (fd_159 (M 99 x2.toNatClampNeg) (x2 - x2 / (6 : Int32) * (6 : Int32)) M).bind fun q5 => fd_160_42 k10 x1 x2 q5))) f
set_option maxRecDepth 50000 in
theorem te_160_10 {L : Nat} {xs : Nat → Int32} {k2 : Int32 → am_M → Option (am_M)} (hk2 : ∀ (x1 : Int32) (M : am_M) (q : am_M) (e2 : Option Value), k2 x1 M = some q → am_ev (tb_P L xs) 160 2 [some (.ref 96), some (.int x1), e2] [] sh_A M (none, sh_A, q)) : ∀ (f : Nat) (x1 : Int32) (x2 : Int32) (M : am_M) (q : am_M), fd_160_10 k2 f x1 x2 M = some q → am_ev (tb_P L xs) 160 10 [some (.ref 96), some (.int x1), some (.int x2)] [] sh_A M (none, sh_A, q) := by
  intro f
  induction f with
  | zero => intro x1 x2 M q h; cases h
  | succ f hk10 =>
    intro x1 x2 M q h
    change (if (96 : Int32) ≤ x2 then (k2 (x1 + (1 : Int32)) M) else (if (x2 / (6 : Int32)) < 0 ∨ 16 ≤ (x2 / (6 : Int32)).toNatClampNeg then none else if (M 113 (x2 / (6 : Int32)).toNatClampNeg) = (0 : Int32) then (fd_160_42 (fd_160_10 k2 f) x1 x2 M) else (if x2 < 0 ∨ 96 ≤ x2.toNatClampNeg then none else (fd_159 (M 99 x2.toNatClampNeg) (x2 - x2 / (6 : Int32) * (6 : Int32)) M).bind fun q5 => fd_160_42 (fd_160_10 k2 f) x1 x2 q5))) = some q at h
    refine am_ev_go (pc' := (am_br .ge x2 (96 : Int32) 48 16)) (L' := [some (.ref 96), some (.int x1), some (.int x2)]) (st' := []) (sh' := sh_A) (M' := M) 3 rfl ?_
    refine ev_ge (fun hc1 => ?_) (fun hc1 => ?_)
    · rw [if_pos hc1] at h
      refine am_ev_go (pc' := 2) (L' := [some (.ref 96), some (.int (x1 + (1 : Int32))), some (.int x2)]) (st' := []) (sh' := sh_A) (M' := M) 2 rfl ?_
      exact hk2 _ _ _ _ h
    · rw [if_neg hc1] at h
      refine am_ev_go (pc' := 24) (L' := [some (.ref 96), some (.int x1), some (.int x2)]) (st' := [.int (x2 / (6 : Int32)), .ref 113]) (sh' := sh_A) (M' := M) 5 rfl ?_
      by_cases hg2 : (x2 / (6 : Int32)) < 0 ∨ 16 ≤ (x2 / (6 : Int32)).toNatClampNeg
      case pos => rw [if_pos hg2] at h; cases h
      rw [if_neg hg2] at h
      refine ev_bald rfl rfl hg2 ?_
      refine am_ev_go (pc' := (am_br .eq (M 113 (x2 / (6 : Int32)).toNatClampNeg) 0 42 28)) (L' := [some (.ref 96), some (.int x1), some (.int x2)]) (st' := []) (sh' := sh_A) (M' := M) 1 rfl ?_
      refine ev_eq (fun hc3 => ?_) (fun hc3 => ?_)
      · rw [if_pos hc3] at h
        exact te_160_42 hk10 _ _ _ _ h
      · rw [if_neg hc3] at h
        refine am_ev_go (pc' := 34) (L' := [some (.ref 96), some (.int x1), some (.int x2)]) (st' := [.int x2, .ref 99, .ref 96]) (sh' := sh_A) (M' := M) 4 rfl ?_
        by_cases hg4 : x2 < 0 ∨ 96 ≤ x2.toNatClampNeg
        case pos => rw [if_pos hg4] at h; cases h
        rw [if_neg hg4] at h
        refine ev_iald rfl rfl hg4 ?_
        refine am_ev_go (pc' := 39) (L' := [some (.ref 96), some (.int x1), some (.int x2)]) (st' := [.int (x2 - x2 / (6 : Int32) * (6 : Int32)), .int (M 99 x2.toNatClampNeg), .ref 96]) (sh' := sh_A) (M' := M) 3 rfl ?_
        obtain ⟨q5, hq6, h⟩ := Option.bind_eq_some_iff.mp h
        refine am_ev_call (mj := 159) (as := [.ref 96, .int (M 99 x2.toNatClampNeg), .int (x2 - x2 / (6 : Int32) * (6 : Int32))]) (rest := []) (rv := none) (sh' := sh_A) (M' := q5) rfl (te_159 _ _ _ _ hq6) ?_
        show am_ev _ 160 42 [some (.ref 96), some (.int x1), some (.int x2)] [] sh_A q5 _
        exact te_160_42 hk10 _ _ _ _ h
def fd_160_2 (f : Nat) : Int32 → am_M → Option (am_M) := Nat.rec (motive := fun _ => Int32 → am_M → Option (am_M)) (fun _ _ => none) (fun _ k2 => fun x1 M => if (17 : Int32) ≤ x1 then (some M) else (fd_160_10 k2 1000 x1 (0 : Int32) M)) f
set_option maxRecDepth 50000 in
theorem te_160_2 {L : Nat} {xs : Nat → Int32} : ∀ (f : Nat) (x1 : Int32) (M : am_M) (q : am_M) (d2 : Option Value), fd_160_2 f x1 M = some q → am_ev (tb_P L xs) 160 2 [some (.ref 96), some (.int x1), d2] [] sh_A M (none, sh_A, q) := by
  intro f
  induction f with
  | zero => intro x1 M q d2 h; cases h
  | succ f hk2 =>
    intro x1 M q d2 h
    change (if (17 : Int32) ≤ x1 then (some M) else (fd_160_10 (fd_160_2 f) 1000 x1 (0 : Int32) M)) = some q at h
    refine am_ev_go (pc' := (am_br .ge x1 (17 : Int32) 54 8)) (L' := [some (.ref 96), some (.int x1), d2]) (st' := []) (sh' := sh_A) (M' := M) 3 rfl ?_
    refine ev_ge (fun hc1 => ?_) (fun hc1 => ?_)
    · rw [if_pos hc1] at h
      cases h
      exact am_ev_ret rfl
    · rw [if_neg hc1] at h
      refine am_ev_go (pc' := 10) (L' := [some (.ref 96), some (.int x1), some (.int (0 : Int32))]) (st' := []) (sh' := sh_A) (M' := M) 2 rfl ?_
      exact te_160_10 hk2 1000 _ _ _ _ h
/-- CountedActorsModel.spread()V -/
def fd_160 (M : am_M) : Option (am_M) := fd_160_2 1000 (0 : Int32) M
set_option maxRecDepth 50000 in
theorem te_160 {L : Nat} {xs : Nat → Int32} (M : am_M) (q : am_M) (h : fd_160  M = some q) : am_ev (tb_P L xs) 160 0 [some (.ref 96), none, none] [] sh_A M (none, sh_A, q) := by
  unfold fd_160 at h
  refine am_ev_go (pc' := 2) (L' := [some (.ref 96), some (.int (0 : Int32)), none]) (st' := []) (sh' := sh_A) (M' := M) 2 rfl ?_
  exact te_160_2 1000 _ _ _ _ h
def fd_162_84 (f : Nat) : Int32 → Int32 → am_M → Option (Int32 × am_M) := Nat.rec (motive := fun _ => Int32 → Int32 → am_M → Option (Int32 × am_M)) (fun _ _ _ => none) (fun _ k84 => fun x2 x3 M => if (4 : Int32) ≤ x3 then (some (x2, M)) else (if (((16 : Int32) * x3) + x2) < 0 ∨ 64 ≤ (((16 : Int32) * x3) + x2).toNatClampNeg then none else k84 x2 (x3 + (1 : Int32)) (ds_w M 100 (((16 : Int32) * x3) + x2).toNatClampNeg (0 : Int32)))) f
set_option maxRecDepth 50000 in
theorem te_162_84 {L : Nat} {xs : Nat → Int32} : ∀ (f : Nat) (x2 : Int32) (x3 : Int32) (M : am_M) (q : Int32 × am_M) (d1 : Option Value), fd_162_84 f x2 x3 M = some q → am_ev (tb_P L xs) 162 84 [some (.ref 96), d1, some (.int x2), some (.int x3)] [] sh_A M (some (.int q.1), sh_A, q.2) := by
  intro f
  induction f with
  | zero => intro x2 x3 M q d1 h; cases h
  | succ f hk84 =>
    intro x2 x3 M q d1 h
    change (if (4 : Int32) ≤ x3 then (some (x2, M)) else (if (((16 : Int32) * x3) + x2) < 0 ∨ 64 ≤ (((16 : Int32) * x3) + x2).toNatClampNeg then none else (fd_162_84 f) x2 (x3 + (1 : Int32)) (ds_w M 100 (((16 : Int32) * x3) + x2).toNatClampNeg (0 : Int32)))) = some q at h
    refine am_ev_go (pc' := (am_br .ge x3 (4 : Int32) 107 89)) (L' := [some (.ref 96), d1, some (.int x2), some (.int x3)]) (st' := []) (sh' := sh_A) (M' := M) 3 rfl ?_
    refine ev_ge (fun hc1 => ?_) (fun hc1 => ?_)
    · rw [if_pos hc1] at h
      refine am_ev_go (pc' := 108) (L' := [some (.ref 96), d1, some (.int x2), some (.int x3)]) (st' := [.int x2]) (sh' := sh_A) (M' := M) 1 rfl ?_
      cases h
      exact am_ev_ret rfl
    · rw [if_neg hc1] at h
      refine am_ev_go (pc' := 100) (L' := [some (.ref 96), d1, some (.int x2), some (.int x3)]) (st' := [.int (0 : Int32), .int (((16 : Int32) * x3) + x2), .ref 100]) (sh' := sh_A) (M' := M) 8 rfl ?_
      by_cases hg2 : (((16 : Int32) * x3) + x2) < 0 ∨ 64 ≤ (((16 : Int32) * x3) + x2).toNatClampNeg
      case pos => rw [if_pos hg2] at h; cases h
      rw [if_neg hg2] at h
      refine ev_iast rfl rfl hg2 ?_
      refine am_ev_go (pc' := 84) (L' := [some (.ref 96), d1, some (.int x2), some (.int (x3 + (1 : Int32)))]) (st' := []) (sh' := sh_A) (M' := (ds_w M 100 (((16 : Int32) * x3) + x2).toNatClampNeg (0 : Int32))) 2 rfl ?_
      exact hk84 _ _ _ _ _ h
def fd_162_58 (f : Nat) : Int32 → Int32 → am_M → Option (Int32 × am_M) := Nat.rec (motive := fun _ => Int32 → Int32 → am_M → Option (Int32 × am_M)) (fun _ _ _ => none) (fun _ k58 => fun x2 x3 M => if (6 : Int32) ≤ x3 then (fd_162_84 1000 x2 (0 : Int32) M) else (if (((6 : Int32) * x2) + x3) < 0 ∨ 96 ≤ (((6 : Int32) * x2) + x3).toNatClampNeg then none else k58 x2 (x3 + (1 : Int32)) (ds_w M 99 (((6 : Int32) * x2) + x3).toNatClampNeg (-1 : Int32)))) f
set_option maxRecDepth 50000 in
theorem te_162_58 {L : Nat} {xs : Nat → Int32} : ∀ (f : Nat) (x2 : Int32) (x3 : Int32) (M : am_M) (q : Int32 × am_M) (d1 : Option Value), fd_162_58 f x2 x3 M = some q → am_ev (tb_P L xs) 162 58 [some (.ref 96), d1, some (.int x2), some (.int x3)] [] sh_A M (some (.int q.1), sh_A, q.2) := by
  intro f
  induction f with
  | zero => intro x2 x3 M q d1 h; cases h
  | succ f hk58 =>
    intro x2 x3 M q d1 h
    change (if (6 : Int32) ≤ x3 then (fd_162_84 1000 x2 (0 : Int32) M) else (if (((6 : Int32) * x2) + x3) < 0 ∨ 96 ≤ (((6 : Int32) * x2) + x3).toNatClampNeg then none else (fd_162_58 f) x2 (x3 + (1 : Int32)) (ds_w M 99 (((6 : Int32) * x2) + x3).toNatClampNeg (-1 : Int32)))) = some q at h
    refine am_ev_go (pc' := (am_br .ge x3 (6 : Int32) 82 64)) (L' := [some (.ref 96), d1, some (.int x2), some (.int x3)]) (st' := []) (sh' := sh_A) (M' := M) 3 rfl ?_
    refine ev_ge (fun hc1 => ?_) (fun hc1 => ?_)
    · rw [if_pos hc1] at h
      refine am_ev_go (pc' := 84) (L' := [some (.ref 96), d1, some (.int x2), some (.int (0 : Int32))]) (st' := []) (sh' := sh_A) (M' := M) 2 rfl ?_
      exact te_162_84 1000 _ _ _ _ _ h
    · rw [if_neg hc1] at h
      refine am_ev_go (pc' := 75) (L' := [some (.ref 96), d1, some (.int x2), some (.int x3)]) (st' := [.int (-1 : Int32), .int (((6 : Int32) * x2) + x3), .ref 99]) (sh' := sh_A) (M' := M) 8 rfl ?_
      by_cases hg2 : (((6 : Int32) * x2) + x3) < 0 ∨ 96 ≤ (((6 : Int32) * x2) + x3).toNatClampNeg
      case pos => rw [if_pos hg2] at h; cases h
      rw [if_neg hg2] at h
      refine ev_iast rfl rfl hg2 ?_
      refine am_ev_go (pc' := 58) (L' := [some (.ref 96), d1, some (.int x2), some (.int (x3 + (1 : Int32)))]) (st' := []) (sh' := sh_A) (M' := (ds_w M 99 (((6 : Int32) * x2) + x3).toNatClampNeg (-1 : Int32))) 2 rfl ?_
      exact hk58 _ _ _ _ _ h
def fd_162_24 (x1 : Int32) (x2 : Int32) (M : am_M) : Option (Int32 × am_M) := if x2 = (16 : Int32) then (some ((-1 : Int32), (ds_w M 96 24 ((M 96 24) + (1 : Int32))))) else (if x2 < 0 ∨ 16 ≤ x2.toNatClampNeg then none else if x2 < 0 ∨ 16 ≤ x2.toNatClampNeg then none else fd_162_58 1000 x2 (0 : Int32) (ds_w (ds_w M 97 x2.toNatClampNeg x1) 98 x2.toNatClampNeg (0 : Int32)))
set_option maxRecDepth 50000 in
theorem te_162_24 {L : Nat} {xs : Nat → Int32} (x1 : Int32) (x2 : Int32) (M : am_M) (q : Int32 × am_M) (d3 : Option Value) (h : fd_162_24 x1 x2 M = some q) : am_ev (tb_P L xs) 162 24 [some (.ref 96), some (.int x1), some (.int x2), d3] [] sh_A M (some (.int q.1), sh_A, q.2) := by
  unfold fd_162_24 at h
  refine am_ev_go (pc' := (am_br .ne x2 (16 : Int32) 42 30)) (L' := [some (.ref 96), some (.int x1), some (.int x2), d3]) (st' := []) (sh' := sh_A) (M' := M) 3 rfl ?_
  refine ev_ne (fun hc1 => ?_) (fun hc1 => ?_)
  · rw [if_neg hc1] at h
    refine am_ev_go (pc' := 48) (L' := [some (.ref 96), some (.int x1), some (.int x2), d3]) (st' := [.int x1, .int x2, .ref 97]) (sh' := sh_A) (M' := M) 4 rfl ?_
    by_cases hg2 : x2 < 0 ∨ 16 ≤ x2.toNatClampNeg
    case pos => rw [if_pos hg2] at h; cases h
    rw [if_neg hg2] at h
    refine ev_iast rfl rfl hg2 ?_
    refine am_ev_go (pc' := 55) (L' := [some (.ref 96), some (.int x1), some (.int x2), d3]) (st' := [.int (0 : Int32), .int x2, .ref 98]) (sh' := sh_A) (M' := (ds_w M 97 x2.toNatClampNeg x1)) 4 rfl ?_
    by_cases hg3 : x2 < 0 ∨ 16 ≤ x2.toNatClampNeg
    case pos => rw [if_pos hg3] at h; cases h
    rw [if_neg hg3] at h
    refine ev_iast rfl rfl hg3 ?_
    refine am_ev_go (pc' := 58) (L' := [some (.ref 96), some (.int x1), some (.int x2), some (.int (0 : Int32))]) (st' := []) (sh' := sh_A) (M' := (ds_w (ds_w M 97 x2.toNatClampNeg x1) 98 x2.toNatClampNeg (0 : Int32))) 2 rfl ?_
    exact te_162_58 1000 _ _ _ _ _ h
  · rw [if_pos hc1] at h
    refine am_ev_go (pc' := 41) (L' := [some (.ref 96), some (.int x1), some (.int x2), d3]) (st' := [.int (-1 : Int32)]) (sh' := sh_A) (M' := (ds_w M 96 24 ((M 96 24) + (1 : Int32)))) 7 rfl ?_
    cases h
    exact am_ev_ret rfl
def fd_162_2 (f : Nat) : Int32 → Int32 → am_M → Option (Int32 × am_M) := Nat.rec (motive := fun _ => Int32 → Int32 → am_M → Option (Int32 × am_M)) (fun _ _ _ => none) (fun _ k2 => fun x1 x2 M => if (16 : Int32) ≤ x2 then (fd_162_24 x1 x2 M) else (if x2 < 0 ∨ 16 ≤ x2.toNatClampNeg then none else if (M 97 x2.toNatClampNeg) = (-1 : Int32) then (fd_162_24 x1 x2 M) else (k2 x1 (x2 + (1 : Int32)) M))) f
set_option maxRecDepth 50000 in
theorem te_162_2 {L : Nat} {xs : Nat → Int32} : ∀ (f : Nat) (x1 : Int32) (x2 : Int32) (M : am_M) (q : Int32 × am_M) (d3 : Option Value), fd_162_2 f x1 x2 M = some q → am_ev (tb_P L xs) 162 2 [some (.ref 96), some (.int x1), some (.int x2), d3] [] sh_A M (some (.int q.1), sh_A, q.2) := by
  intro f
  induction f with
  | zero => intro x1 x2 M q d3 h; cases h
  | succ f hk2 =>
    intro x1 x2 M q d3 h
    change (if (16 : Int32) ≤ x2 then (fd_162_24 x1 x2 M) else (if x2 < 0 ∨ 16 ≤ x2.toNatClampNeg then none else if (M 97 x2.toNatClampNeg) = (-1 : Int32) then (fd_162_24 x1 x2 M) else ((fd_162_2 f) x1 (x2 + (1 : Int32)) M))) = some q at h
    refine am_ev_go (pc' := (am_br .ge x2 (16 : Int32) 24 8)) (L' := [some (.ref 96), some (.int x1), some (.int x2), d3]) (st' := []) (sh' := sh_A) (M' := M) 3 rfl ?_
    refine ev_ge (fun hc1 => ?_) (fun hc1 => ?_)
    · rw [if_pos hc1] at h
      exact te_162_24 _ _ _ _ _ h
    · rw [if_neg hc1] at h
      refine am_ev_go (pc' := 13) (L' := [some (.ref 96), some (.int x1), some (.int x2), d3]) (st' := [.int x2, .ref 97]) (sh' := sh_A) (M' := M) 3 rfl ?_
      by_cases hg2 : x2 < 0 ∨ 16 ≤ x2.toNatClampNeg
      case pos => rw [if_pos hg2] at h; cases h
      rw [if_neg hg2] at h
      refine ev_iald rfl rfl hg2 ?_
      refine am_ev_go (pc' := (am_br .eq (M 97 x2.toNatClampNeg) (-1 : Int32) 24 18)) (L' := [some (.ref 96), some (.int x1), some (.int x2), d3]) (st' := []) (sh' := sh_A) (M' := M) 2 rfl ?_
      refine ev_eq (fun hc3 => ?_) (fun hc3 => ?_)
      · rw [if_pos hc3] at h
        exact te_162_24 _ _ _ _ _ h
      · rw [if_neg hc3] at h
        refine am_ev_go (pc' := 2) (L' := [some (.ref 96), some (.int x1), some (.int (x2 + (1 : Int32))), d3]) (st' := []) (sh' := sh_A) (M' := M) 2 rfl ?_
        exact hk2 _ _ _ _ _ h
/-- CountedActorsModel.made(I)I -/
def fd_162 (a1 : Int32) (M : am_M) : Option (Int32 × am_M) := fd_162_2 1000 a1 (0 : Int32) M
set_option maxRecDepth 50000 in
theorem te_162 {L : Nat} {xs : Nat → Int32} (a1 : Int32) (M : am_M) (q : Int32 × am_M) (h : fd_162 a1 M = some q) : am_ev (tb_P L xs) 162 0 [some (.ref 96), some (.int a1), none, none] [] sh_A M (some (.int q.1), sh_A, q.2) := by
  unfold fd_162 at h
  refine am_ev_go (pc' := 2) (L' := [some (.ref 96), some (.int a1), some (.int (0 : Int32)), none]) (st' := []) (sh' := sh_A) (M' := M) 2 rfl ?_
  exact te_162_2 1000 _ _ _ _ _ h
/-- CountedActorsModel.read(III)I -/
def fd_163 (a1 : Int32) (a2 : Int32) (a3 : Int32) (M : am_M) : Option (Int32 × am_M) := if a2 = (6 : Int32) then (if (((6 : Int32) * a1) + a3) < 0 ∨ 24 ≤ (((6 : Int32) * a1) + a3).toNatClampNeg then none else some ((M 101 (((6 : Int32) * a1) + a3).toNatClampNeg), M)) else (if a2 < 0 ∨ 6 ≤ a2.toNatClampNeg then none else if (M 115 a2.toNatClampNeg) = (-1 : Int32) then (some ((-1 : Int32), M)) else (if a2 < 0 ∨ 6 ≤ a2.toNatClampNeg then none else if (((6 : Int32) * (M 115 a2.toNatClampNeg)) + a3) < 0 ∨ 96 ≤ (((6 : Int32) * (M 115 a2.toNatClampNeg)) + a3).toNatClampNeg then none else some ((M 99 (((6 : Int32) * (M 115 a2.toNatClampNeg)) + a3).toNatClampNeg), M)))
set_option maxRecDepth 50000 in
theorem te_163 {L : Nat} {xs : Nat → Int32} (a1 : Int32) (a2 : Int32) (a3 : Int32) (M : am_M) (q : Int32 × am_M) (h : fd_163 a1 a2 a3 M = some q) : am_ev (tb_P L xs) 163 0 [some (.ref 96), some (.int a1), some (.int a2), some (.int a3)] [] sh_A M (some (.int q.1), sh_A, q.2) := by
  unfold fd_163 at h
  refine am_ev_go (pc' := (am_br .ne a2 (6 : Int32) 18 6)) (L' := [some (.ref 96), some (.int a1), some (.int a2), some (.int a3)]) (st' := []) (sh' := sh_A) (M' := M) 3 rfl ?_
  refine ev_ne (fun hc1 => ?_) (fun hc1 => ?_)
  · rw [if_neg hc1] at h
    refine am_ev_go (pc' := 23) (L' := [some (.ref 96), some (.int a1), some (.int a2), some (.int a3)]) (st' := [.int a2, .ref 115]) (sh' := sh_A) (M' := M) 3 rfl ?_
    by_cases hg2 : a2 < 0 ∨ 6 ≤ a2.toNatClampNeg
    case pos => rw [if_pos hg2] at h; cases h
    rw [if_neg hg2] at h
    refine ev_iald rfl rfl hg2 ?_
    refine am_ev_go (pc' := (am_br .ne (M 115 a2.toNatClampNeg) (-1 : Int32) 32 28)) (L' := [some (.ref 96), some (.int a1), some (.int a2), some (.int a3)]) (st' := []) (sh' := sh_A) (M' := M) 2 rfl ?_
    refine ev_ne (fun hc3 => ?_) (fun hc3 => ?_)
    · rw [if_neg hc3] at h
      refine am_ev_go (pc' := 43) (L' := [some (.ref 96), some (.int a1), some (.int a2), some (.int a3)]) (st' := [.int a2, .ref 115, .int (6 : Int32), .ref 99]) (sh' := sh_A) (M' := M) 6 rfl ?_
      by_cases hg4 : a2 < 0 ∨ 6 ≤ a2.toNatClampNeg
      case pos => rw [if_pos hg4] at h; cases h
      rw [if_neg hg4] at h
      refine ev_iald rfl rfl hg4 ?_
      refine am_ev_go (pc' := 47) (L' := [some (.ref 96), some (.int a1), some (.int a2), some (.int a3)]) (st' := [.int (((6 : Int32) * (M 115 a2.toNatClampNeg)) + a3), .ref 99]) (sh' := sh_A) (M' := M) 3 rfl ?_
      by_cases hg5 : (((6 : Int32) * (M 115 a2.toNatClampNeg)) + a3) < 0 ∨ 96 ≤ (((6 : Int32) * (M 115 a2.toNatClampNeg)) + a3).toNatClampNeg
      case pos => rw [if_pos hg5] at h; cases h
      rw [if_neg hg5] at h
      refine ev_iald rfl rfl hg5 ?_
      cases h
      exact am_ev_ret rfl
    · rw [if_pos hc3] at h
      refine am_ev_go (pc' := 48) (L' := [some (.ref 96), some (.int a1), some (.int a2), some (.int a3)]) (st' := [.int (-1 : Int32)]) (sh' := sh_A) (M' := M) 2 rfl ?_
      cases h
      exact am_ev_ret rfl
  · rw [if_pos hc1] at h
    refine am_ev_go (pc' := 16) (L' := [some (.ref 96), some (.int a1), some (.int a2), some (.int a3)]) (st' := [.int (((6 : Int32) * a1) + a3), .ref 101]) (sh' := sh_A) (M' := M) 7 rfl ?_
    by_cases hg6 : (((6 : Int32) * a1) + a3) < 0 ∨ 24 ≤ (((6 : Int32) * a1) + a3).toNatClampNeg
    case pos => rw [if_pos hg6] at h; cases h
    rw [if_neg hg6] at h
    refine ev_iald rfl rfl hg6 ?_
    cases h
    exact am_ev_ret rfl
/-- CountedActorsModel.write(IIII)V -/
def fd_164 (a1 : Int32) (a2 : Int32) (a3 : Int32) (a4 : Int32) (M : am_M) : Option (am_M) := if a2 = (6 : Int32) then (if (((6 : Int32) * a1) + a3) < 0 ∨ 24 ≤ (((6 : Int32) * a1) + a3).toNatClampNeg then none else some (ds_w M 101 (((6 : Int32) * a1) + a3).toNatClampNeg a4)) else (if a2 < 0 ∨ 6 ≤ a2.toNatClampNeg then none else if (M 115 a2.toNatClampNeg) = (-1 : Int32) then (some M) else (if a2 < 0 ∨ 6 ≤ a2.toNatClampNeg then none else if (((6 : Int32) * (M 115 a2.toNatClampNeg)) + a3) < 0 ∨ 96 ≤ (((6 : Int32) * (M 115 a2.toNatClampNeg)) + a3).toNatClampNeg then none else some (ds_w M 99 (((6 : Int32) * (M 115 a2.toNatClampNeg)) + a3).toNatClampNeg a4)))
set_option maxRecDepth 50000 in
theorem te_164 {L : Nat} {xs : Nat → Int32} (a1 : Int32) (a2 : Int32) (a3 : Int32) (a4 : Int32) (M : am_M) (q : am_M) (h : fd_164 a1 a2 a3 a4 M = some q) : am_ev (tb_P L xs) 164 0 [some (.ref 96), some (.int a1), some (.int a2), some (.int a3), some (.int a4)] [] sh_A M (none, sh_A, q) := by
  unfold fd_164 at h
  refine am_ev_go (pc' := (am_br .ne a2 (6 : Int32) 22 6)) (L' := [some (.ref 96), some (.int a1), some (.int a2), some (.int a3), some (.int a4)]) (st' := []) (sh' := sh_A) (M' := M) 3 rfl ?_
  refine ev_ne (fun hc1 => ?_) (fun hc1 => ?_)
  · rw [if_neg hc1] at h
    refine am_ev_go (pc' := 27) (L' := [some (.ref 96), some (.int a1), some (.int a2), some (.int a3), some (.int a4)]) (st' := [.int a2, .ref 115]) (sh' := sh_A) (M' := M) 3 rfl ?_
    by_cases hg2 : a2 < 0 ∨ 6 ≤ a2.toNatClampNeg
    case pos => rw [if_pos hg2] at h; cases h
    rw [if_neg hg2] at h
    refine ev_iald rfl rfl hg2 ?_
    refine am_ev_go (pc' := (am_br .eq (M 115 a2.toNatClampNeg) (-1 : Int32) 50 32)) (L' := [some (.ref 96), some (.int a1), some (.int a2), some (.int a3), some (.int a4)]) (st' := []) (sh' := sh_A) (M' := M) 2 rfl ?_
    refine ev_eq (fun hc3 => ?_) (fun hc3 => ?_)
    · rw [if_pos hc3] at h
      cases h
      exact am_ev_ret rfl
    · rw [if_neg hc3] at h
      refine am_ev_go (pc' := 43) (L' := [some (.ref 96), some (.int a1), some (.int a2), some (.int a3), some (.int a4)]) (st' := [.int a2, .ref 115, .int (6 : Int32), .ref 99]) (sh' := sh_A) (M' := M) 6 rfl ?_
      by_cases hg4 : a2 < 0 ∨ 6 ≤ a2.toNatClampNeg
      case pos => rw [if_pos hg4] at h; cases h
      rw [if_neg hg4] at h
      refine ev_iald rfl rfl hg4 ?_
      refine am_ev_go (pc' := 49) (L' := [some (.ref 96), some (.int a1), some (.int a2), some (.int a3), some (.int a4)]) (st' := [.int a4, .int (((6 : Int32) * (M 115 a2.toNatClampNeg)) + a3), .ref 99]) (sh' := sh_A) (M' := M) 4 rfl ?_
      by_cases hg5 : (((6 : Int32) * (M 115 a2.toNatClampNeg)) + a3) < 0 ∨ 96 ≤ (((6 : Int32) * (M 115 a2.toNatClampNeg)) + a3).toNatClampNeg
      case pos => rw [if_pos hg5] at h; cases h
      rw [if_neg hg5] at h
      refine ev_iast rfl rfl hg5 ?_
      cases h
      exact am_ev_ret rfl
  · rw [if_pos hc1] at h
    refine am_ev_go (pc' := 18) (L' := [some (.ref 96), some (.int a1), some (.int a2), some (.int a3), some (.int a4)]) (st' := [.int a4, .int (((6 : Int32) * a1) + a3), .ref 101]) (sh' := sh_A) (M' := M) 8 rfl ?_
    by_cases hg6 : (((6 : Int32) * a1) + a3) < 0 ∨ 24 ≤ (((6 : Int32) * a1) + a3).toNatClampNeg
    case pos => rw [if_pos hg6] at h; cases h
    rw [if_neg hg6] at h
    refine ev_iast rfl rfl hg6 ?_
    refine am_ev_go (pc' := 50) (L' := [some (.ref 96), some (.int a1), some (.int a2), some (.int a3), some (.int a4)]) (st' := []) (sh' := sh_A) (M' := (ds_w M 101 (((6 : Int32) * a1) + a3).toNatClampNeg a4)) 1 rfl ?_
    cases h
    exact am_ev_ret rfl
def fd_165_3 (f : Nat) : Int32 → Int32 → am_M → Option (am_M) := Nat.rec (motive := fun _ => Int32 → Int32 → am_M → Option (am_M)) (fun _ _ _ => none) (fun _ k3 => fun x1 x2 M => if x2 ≤ (0 : Int32) then (if (0 : Int32) < 0 ∨ 16 ≤ (0 : Int32).toNatClampNeg then none else some (ds_w (ds_w M 116 (0 : Int32).toNatClampNeg x1) 96 25 ((M 96 25) + (1 : Int32)))) else (if (x2 - (1 : Int32)) < 0 ∨ 16 ≤ (x2 - (1 : Int32)).toNatClampNeg then none else if x2 < 0 ∨ 16 ≤ x2.toNatClampNeg then none else k3 x1 (x2 + (-1 : Int32)) (ds_w M 116 x2.toNatClampNeg (M 116 (x2 - (1 : Int32)).toNatClampNeg)))) f
set_option maxRecDepth 50000 in
theorem te_165_3 {L : Nat} {xs : Nat → Int32} : ∀ (f : Nat) (x1 : Int32) (x2 : Int32) (M : am_M) (q : am_M), fd_165_3 f x1 x2 M = some q → am_ev (tb_P L xs) 165 3 [some (.ref 96), some (.int x1), some (.int x2)] [] sh_A M (none, sh_A, q) := by
  intro f
  induction f with
  | zero => intro x1 x2 M q h; cases h
  | succ f hk3 =>
    intro x1 x2 M q h
    change (if x2 ≤ (0 : Int32) then (if (0 : Int32) < 0 ∨ 16 ≤ (0 : Int32).toNatClampNeg then none else some (ds_w (ds_w M 116 (0 : Int32).toNatClampNeg x1) 96 25 ((M 96 25) + (1 : Int32)))) else (if (x2 - (1 : Int32)) < 0 ∨ 16 ≤ (x2 - (1 : Int32)).toNatClampNeg then none else if x2 < 0 ∨ 16 ≤ x2.toNatClampNeg then none else (fd_165_3 f) x1 (x2 + (-1 : Int32)) (ds_w M 116 x2.toNatClampNeg (M 116 (x2 - (1 : Int32)).toNatClampNeg)))) = some q at h
    refine am_ev_go (pc' := (am_br .le x2 0 27 7)) (L' := [some (.ref 96), some (.int x1), some (.int x2)]) (st' := []) (sh' := sh_A) (M' := M) 2 rfl ?_
    refine ev_le (fun hc1 => ?_) (fun hc1 => ?_)
    · rw [if_pos hc1] at h
      refine am_ev_go (pc' := 33) (L' := [some (.ref 96), some (.int x1), some (.int x2)]) (st' := [.int x1, .int (0 : Int32), .ref 116]) (sh' := sh_A) (M' := M) 4 rfl ?_
      by_cases hg2 : (0 : Int32) < 0 ∨ 16 ≤ (0 : Int32).toNatClampNeg
      case pos => rw [if_pos hg2] at h; cases h
      rw [if_neg hg2] at h
      refine ev_iast rfl rfl hg2 ?_
      refine am_ev_go (pc' := 44) (L' := [some (.ref 96), some (.int x1), some (.int x2)]) (st' := []) (sh' := sh_A) (M' := (ds_w (ds_w M 116 (0 : Int32).toNatClampNeg x1) 96 25 ((M 96 25) + (1 : Int32)))) 6 rfl ?_
      cases h
      exact am_ev_ret rfl
    · rw [if_neg hc1] at h
      refine am_ev_go (pc' := 19) (L' := [some (.ref 96), some (.int x1), some (.int x2)]) (st' := [.int (x2 - (1 : Int32)), .ref 116, .int x2, .ref 116]) (sh' := sh_A) (M' := M) 8 rfl ?_
      by_cases hg3 : (x2 - (1 : Int32)) < 0 ∨ 16 ≤ (x2 - (1 : Int32)).toNatClampNeg
      case pos => rw [if_pos hg3] at h; cases h
      rw [if_neg hg3] at h
      refine ev_iald rfl rfl hg3 ?_
      by_cases hg4 : x2 < 0 ∨ 16 ≤ x2.toNatClampNeg
      case pos => rw [if_pos hg4] at h; cases h
      rw [if_neg hg4] at h
      refine ev_iast rfl rfl hg4 ?_
      refine am_ev_go (pc' := 3) (L' := [some (.ref 96), some (.int x1), some (.int (x2 + (-1 : Int32)))]) (st' := []) (sh' := sh_A) (M' := (ds_w M 116 x2.toNatClampNeg (M 116 (x2 - (1 : Int32)).toNatClampNeg))) 2 rfl ?_
      exact hk3 _ _ _ _ h
/-- CountedActorsModel.show(I)V -/
def fd_165 (a1 : Int32) (M : am_M) : Option (am_M) := fd_165_3 1000 a1 (15 : Int32) M
set_option maxRecDepth 50000 in
theorem te_165 {L : Nat} {xs : Nat → Int32} (a1 : Int32) (M : am_M) (q : am_M) (h : fd_165 a1 M = some q) : am_ev (tb_P L xs) 165 0 [some (.ref 96), some (.int a1), none] [] sh_A M (none, sh_A, q) := by
  unfold fd_165 at h
  refine am_ev_go (pc' := 3) (L' := [some (.ref 96), some (.int a1), some (.int (15 : Int32))]) (st' := []) (sh' := sh_A) (M' := M) 2 rfl ?_
  exact te_165_3 1000 _ _ _ _ h
/-- CountedActorsModel.pay(II)V -/
def fd_167 (a1 : Int32) (a2 : Int32) (M : am_M) : Option (am_M) := if a2 < 0 ∨ 16 ≤ a2.toNatClampNeg then none else if (M 97 a2.toNatClampNeg) = a1 then (if (((16 : Int32) * a1) + a2) < 0 ∨ 64 ≤ (((16 : Int32) * a1) + a2).toNatClampNeg then none else if (((16 : Int32) * a1) + a2) < 0 ∨ 64 ≤ (((16 : Int32) * a1) + a2).toNatClampNeg then none else some (ds_w M 100 (((16 : Int32) * a1) + a2).toNatClampNeg ((M 100 (((16 : Int32) * a1) + a2).toNatClampNeg) + (1 : Int32)))) else (if (((16 : Int32) * a1) + a2) < 0 ∨ 64 ≤ (((16 : Int32) * a1) + a2).toNatClampNeg then none else if (M 100 (((16 : Int32) * a1) + a2).toNatClampNeg) < (2 : Int32) then (if a2 < 0 ∨ 16 ≤ a2.toNatClampNeg then none else (fd_155 (1 : Int32) (M 97 a2.toNatClampNeg) a2 (8 : Int32) M).bind fun q6 => if (((16 : Int32) * a1) + a2) < 0 ∨ 64 ≤ (((16 : Int32) * a1) + a2).toNatClampNeg then none else if (((16 : Int32) * a1) + a2) < 0 ∨ 64 ≤ (((16 : Int32) * a1) + a2).toNatClampNeg then none else some (ds_w q6 100 (((16 : Int32) * a1) + a2).toNatClampNeg ((q6 100 (((16 : Int32) * a1) + a2).toNatClampNeg) + (7 : Int32)))) else (if (((16 : Int32) * a1) + a2) < 0 ∨ 64 ≤ (((16 : Int32) * a1) + a2).toNatClampNeg then none else if (((16 : Int32) * a1) + a2) < 0 ∨ 64 ≤ (((16 : Int32) * a1) + a2).toNatClampNeg then none else some (ds_w M 100 (((16 : Int32) * a1) + a2).toNatClampNeg ((M 100 (((16 : Int32) * a1) + a2).toNatClampNeg) - (1 : Int32)))))
set_option maxRecDepth 50000 in
theorem te_167 {L : Nat} {xs : Nat → Int32} (a1 : Int32) (a2 : Int32) (M : am_M) (q : am_M) (h : fd_167 a1 a2 M = some q) : am_ev (tb_P L xs) 167 0 [some (.ref 96), some (.int a1), some (.int a2), none] [] sh_A M (none, sh_A, q) := by
  unfold fd_167 at h
  refine am_ev_go (pc' := 12) (L' := [some (.ref 96), some (.int a1), some (.int a2), some (.int (((16 : Int32) * a1) + a2))]) (st' := [.int a2, .ref 97]) (sh' := sh_A) (M' := M) 9 rfl ?_
  by_cases hg1 : a2 < 0 ∨ 16 ≤ a2.toNatClampNeg
  case pos => rw [if_pos hg1] at h; cases h
  rw [if_neg hg1] at h
  refine ev_iald rfl rfl hg1 ?_
  refine am_ev_go (pc' := (am_br .ne (M 97 a2.toNatClampNeg) a1 30 17)) (L' := [some (.ref 96), some (.int a1), some (.int a2), some (.int (((16 : Int32) * a1) + a2))]) (st' := []) (sh' := sh_A) (M' := M) 2 rfl ?_
  refine ev_ne (fun hc2 => ?_) (fun hc2 => ?_)
  · rw [if_neg hc2] at h
    refine am_ev_go (pc' := 35) (L' := [some (.ref 96), some (.int a1), some (.int a2), some (.int (((16 : Int32) * a1) + a2))]) (st' := [.int (((16 : Int32) * a1) + a2), .ref 100]) (sh' := sh_A) (M' := M) 3 rfl ?_
    by_cases hg3 : (((16 : Int32) * a1) + a2) < 0 ∨ 64 ≤ (((16 : Int32) * a1) + a2).toNatClampNeg
    case pos => rw [if_pos hg3] at h; cases h
    rw [if_neg hg3] at h
    refine ev_iald rfl rfl hg3 ?_
    refine am_ev_go (pc' := (am_br .lt (M 100 (((16 : Int32) * a1) + a2).toNatClampNeg) (2 : Int32) 53 40)) (L' := [some (.ref 96), some (.int a1), some (.int a2), some (.int (((16 : Int32) * a1) + a2))]) (st' := []) (sh' := sh_A) (M' := M) 2 rfl ?_
    refine ev_lt (fun hc4 => ?_) (fun hc4 => ?_)
    · rw [if_pos hc4] at h
      refine am_ev_go (pc' := 60) (L' := [some (.ref 96), some (.int a1), some (.int a2), some (.int (((16 : Int32) * a1) + a2))]) (st' := [.int a2, .ref 97, .int (1 : Int32), .ref 96]) (sh' := sh_A) (M' := M) 5 rfl ?_
      by_cases hg5 : a2 < 0 ∨ 16 ≤ a2.toNatClampNeg
      case pos => rw [if_pos hg5] at h; cases h
      rw [if_neg hg5] at h
      refine ev_iald rfl rfl hg5 ?_
      refine am_ev_go (pc' := 64) (L' := [some (.ref 96), some (.int a1), some (.int a2), some (.int (((16 : Int32) * a1) + a2))]) (st' := [.int (8 : Int32), .int a2, .int (M 97 a2.toNatClampNeg), .int (1 : Int32), .ref 96]) (sh' := sh_A) (M' := M) 2 rfl ?_
      obtain ⟨q6, hq7, h⟩ := Option.bind_eq_some_iff.mp h
      refine am_ev_call (mj := 155) (as := [.ref 96, .int (1 : Int32), .int (M 97 a2.toNatClampNeg), .int a2, .int (8 : Int32)]) (rest := []) (rv := none) (sh' := sh_A) (M' := q6) rfl (te_155 _ _ _ _ _ _ hq7) ?_
      show am_ev _ 167 67 [some (.ref 96), some (.int a1), some (.int a2), some (.int (((16 : Int32) * a1) + a2))] [] sh_A q6 _
      refine am_ev_go (pc' := 73) (L' := [some (.ref 96), some (.int a1), some (.int a2), some (.int (((16 : Int32) * a1) + a2))]) (st' := [.int (((16 : Int32) * a1) + a2), .ref 100, .int (((16 : Int32) * a1) + a2), .ref 100]) (sh' := sh_A) (M' := q6) 4 rfl ?_
      by_cases hg8 : (((16 : Int32) * a1) + a2) < 0 ∨ 64 ≤ (((16 : Int32) * a1) + a2).toNatClampNeg
      case pos => rw [if_pos hg8] at h; cases h
      rw [if_neg hg8] at h
      refine ev_iald rfl rfl hg8 ?_
      refine am_ev_go (pc' := 77) (L' := [some (.ref 96), some (.int a1), some (.int a2), some (.int (((16 : Int32) * a1) + a2))]) (st' := [.int ((q6 100 (((16 : Int32) * a1) + a2).toNatClampNeg) + (7 : Int32)), .int (((16 : Int32) * a1) + a2), .ref 100]) (sh' := sh_A) (M' := q6) 2 rfl ?_
      by_cases hg9 : (((16 : Int32) * a1) + a2) < 0 ∨ 64 ≤ (((16 : Int32) * a1) + a2).toNatClampNeg
      case pos => rw [if_pos hg9] at h; cases h
      rw [if_neg hg9] at h
      refine ev_iast rfl rfl hg9 ?_
      cases h
      exact am_ev_ret rfl
    · rw [if_neg hc4] at h
      refine am_ev_go (pc' := 46) (L' := [some (.ref 96), some (.int a1), some (.int a2), some (.int (((16 : Int32) * a1) + a2))]) (st' := [.int (((16 : Int32) * a1) + a2), .ref 100, .int (((16 : Int32) * a1) + a2), .ref 100]) (sh' := sh_A) (M' := M) 4 rfl ?_
      by_cases hg10 : (((16 : Int32) * a1) + a2) < 0 ∨ 64 ≤ (((16 : Int32) * a1) + a2).toNatClampNeg
      case pos => rw [if_pos hg10] at h; cases h
      rw [if_neg hg10] at h
      refine ev_iald rfl rfl hg10 ?_
      refine am_ev_go (pc' := 49) (L' := [some (.ref 96), some (.int a1), some (.int a2), some (.int (((16 : Int32) * a1) + a2))]) (st' := [.int ((M 100 (((16 : Int32) * a1) + a2).toNatClampNeg) - (1 : Int32)), .int (((16 : Int32) * a1) + a2), .ref 100]) (sh' := sh_A) (M' := M) 2 rfl ?_
      by_cases hg11 : (((16 : Int32) * a1) + a2) < 0 ∨ 64 ≤ (((16 : Int32) * a1) + a2).toNatClampNeg
      case pos => rw [if_pos hg11] at h; cases h
      rw [if_neg hg11] at h
      refine ev_iast rfl rfl hg11 ?_
      refine am_ev_go (pc' := 78) (L' := [some (.ref 96), some (.int a1), some (.int a2), some (.int (((16 : Int32) * a1) + a2))]) (st' := []) (sh' := sh_A) (M' := (ds_w M 100 (((16 : Int32) * a1) + a2).toNatClampNeg ((M 100 (((16 : Int32) * a1) + a2).toNatClampNeg) - (1 : Int32)))) 1 rfl ?_
      cases h
      exact am_ev_ret rfl
  · rw [if_pos hc2] at h
    refine am_ev_go (pc' := 23) (L' := [some (.ref 96), some (.int a1), some (.int a2), some (.int (((16 : Int32) * a1) + a2))]) (st' := [.int (((16 : Int32) * a1) + a2), .ref 100, .int (((16 : Int32) * a1) + a2), .ref 100]) (sh' := sh_A) (M' := M) 4 rfl ?_
    by_cases hg12 : (((16 : Int32) * a1) + a2) < 0 ∨ 64 ≤ (((16 : Int32) * a1) + a2).toNatClampNeg
    case pos => rw [if_pos hg12] at h; cases h
    rw [if_neg hg12] at h
    refine ev_iald rfl rfl hg12 ?_
    refine am_ev_go (pc' := 26) (L' := [some (.ref 96), some (.int a1), some (.int a2), some (.int (((16 : Int32) * a1) + a2))]) (st' := [.int ((M 100 (((16 : Int32) * a1) + a2).toNatClampNeg) + (1 : Int32)), .int (((16 : Int32) * a1) + a2), .ref 100]) (sh' := sh_A) (M' := M) 2 rfl ?_
    by_cases hg13 : (((16 : Int32) * a1) + a2) < 0 ∨ 64 ≤ (((16 : Int32) * a1) + a2).toNatClampNeg
    case pos => rw [if_pos hg13] at h; cases h
    rw [if_neg hg13] at h
    refine ev_iast rfl rfl hg13 ?_
    refine am_ev_go (pc' := 78) (L' := [some (.ref 96), some (.int a1), some (.int a2), some (.int (((16 : Int32) * a1) + a2))]) (st' := []) (sh' := sh_A) (M' := (ds_w M 100 (((16 : Int32) * a1) + a2).toNatClampNeg ((M 100 (((16 : Int32) * a1) + a2).toNatClampNeg) + (1 : Int32)))) 1 rfl ?_
    cases h
    exact am_ev_ret rfl
def fd_166_131 (k107 : Int32 → Int32 → Int32 → Int32 → Int32 → am_M → Option (am_M)) (x1 : Int32) (x2 : Int32) (x3 : Int32) (x4 : Int32) (x6 : Int32) (M : am_M) : Option (am_M) := k107 x1 x2 x3 x4 (x6 + (1 : Int32)) M
set_option maxRecDepth 50000 in
theorem te_166_131 {L : Nat} {xs : Nat → Int32} {k107 : Int32 → Int32 → Int32 → Int32 → Int32 → am_M → Option (am_M)} (hk107 : ∀ (x1 : Int32) (x2 : Int32) (x3 : Int32) (x4 : Int32) (x6 : Int32) (M : am_M) (q : am_M) (e5 : Option Value), k107 x1 x2 x3 x4 x6 M = some q → am_ev (tb_P L xs) 166 107 [some (.ref 96), some (.int x1), some (.int x2), some (.int x3), some (.int x4), e5, some (.int x6)] [] sh_A M (none, sh_A, q)) (x1 : Int32) (x2 : Int32) (x3 : Int32) (x4 : Int32) (x6 : Int32) (M : am_M) (q : am_M) (d5 : Option Value) (h : fd_166_131 k107 x1 x2 x3 x4 x6 M = some q) : am_ev (tb_P L xs) 166 131 [some (.ref 96), some (.int x1), some (.int x2), some (.int x3), some (.int x4), d5, some (.int x6)] [] sh_A M (none, sh_A, q) := by
  unfold fd_166_131 at h
  refine am_ev_go (pc' := 107) (L' := [some (.ref 96), some (.int x1), some (.int x2), some (.int x3), some (.int x4), d5, some (.int (x6 + (1 : Int32)))]) (st' := []) (sh' := sh_A) (M' := M) 2 rfl ?_
  exact hk107 _ _ _ _ _ _ _ _ h
def fd_166_107 (f : Nat) : Int32 → Int32 → Int32 → Int32 → Int32 → am_M → Option (am_M) := Nat.rec (motive := fun _ => Int32 → Int32 → Int32 → Int32 → Int32 → am_M → Option (am_M)) (fun _ _ _ _ _ _ => none) (fun _ k107 => fun x1 x2 x3 x4 x6 M => if (16 : Int32) ≤ x6 then ((fd_155 (0 : Int32) x2 x3 x4 M).bind fun q2 => some q2) else (if x6 < 0 ∨ 16 ≤ x6.toNatClampNeg then none else if (M 112 x6.toNatClampNeg) = (0 : Int32) then (fd_166_131 k107 x1 x2 x3 x4 x6 M) else ((fd_167 x1 x6 M).bind fun q6 => fd_166_131 k107 x1 x2 x3 x4 x6 q6))) f
set_option maxRecDepth 50000 in
theorem te_166_107 {L : Nat} {xs : Nat → Int32} : ∀ (f : Nat) (x1 : Int32) (x2 : Int32) (x3 : Int32) (x4 : Int32) (x6 : Int32) (M : am_M) (q : am_M) (d5 : Option Value), fd_166_107 f x1 x2 x3 x4 x6 M = some q → am_ev (tb_P L xs) 166 107 [some (.ref 96), some (.int x1), some (.int x2), some (.int x3), some (.int x4), d5, some (.int x6)] [] sh_A M (none, sh_A, q) := by
  intro f
  induction f with
  | zero => intro x1 x2 x3 x4 x6 M q d5 h; cases h
  | succ f hk107 =>
    intro x1 x2 x3 x4 x6 M q d5 h
    change (if (16 : Int32) ≤ x6 then ((fd_155 (0 : Int32) x2 x3 x4 M).bind fun q2 => some q2) else (if x6 < 0 ∨ 16 ≤ x6.toNatClampNeg then none else if (M 112 x6.toNatClampNeg) = (0 : Int32) then (fd_166_131 (fd_166_107 f) x1 x2 x3 x4 x6 M) else ((fd_167 x1 x6 M).bind fun q6 => fd_166_131 (fd_166_107 f) x1 x2 x3 x4 x6 q6))) = some q at h
    refine am_ev_go (pc' := (am_br .ge x6 (16 : Int32) 137 114)) (L' := [some (.ref 96), some (.int x1), some (.int x2), some (.int x3), some (.int x4), d5, some (.int x6)]) (st' := []) (sh' := sh_A) (M' := M) 3 rfl ?_
    refine ev_ge (fun hc1 => ?_) (fun hc1 => ?_)
    · rw [if_pos hc1] at h
      refine am_ev_go (pc' := 143) (L' := [some (.ref 96), some (.int x1), some (.int x2), some (.int x3), some (.int x4), d5, some (.int x6)]) (st' := [.int x4, .int x3, .int x2, .int (0 : Int32), .ref 96]) (sh' := sh_A) (M' := M) 5 rfl ?_
      obtain ⟨q2, hq3, h⟩ := Option.bind_eq_some_iff.mp h
      refine am_ev_call (mj := 155) (as := [.ref 96, .int (0 : Int32), .int x2, .int x3, .int x4]) (rest := []) (rv := none) (sh' := sh_A) (M' := q2) rfl (te_155 _ _ _ _ _ _ hq3) ?_
      show am_ev _ 166 146 [some (.ref 96), some (.int x1), some (.int x2), some (.int x3), some (.int x4), d5, some (.int x6)] [] sh_A q2 _
      cases h
      exact am_ev_ret rfl
    · rw [if_neg hc1] at h
      refine am_ev_go (pc' := 120) (L' := [some (.ref 96), some (.int x1), some (.int x2), some (.int x3), some (.int x4), d5, some (.int x6)]) (st' := [.int x6, .ref 112]) (sh' := sh_A) (M' := M) 3 rfl ?_
      by_cases hg4 : x6 < 0 ∨ 16 ≤ x6.toNatClampNeg
      case pos => rw [if_pos hg4] at h; cases h
      rw [if_neg hg4] at h
      refine ev_bald rfl rfl hg4 ?_
      refine am_ev_go (pc' := (am_br .eq (M 112 x6.toNatClampNeg) 0 131 124)) (L' := [some (.ref 96), some (.int x1), some (.int x2), some (.int x3), some (.int x4), d5, some (.int x6)]) (st' := []) (sh' := sh_A) (M' := M) 1 rfl ?_
      refine ev_eq (fun hc5 => ?_) (fun hc5 => ?_)
      · rw [if_pos hc5] at h
        exact te_166_131 hk107 _ _ _ _ _ _ _ _ h
      · rw [if_neg hc5] at h
        refine am_ev_go (pc' := 128) (L' := [some (.ref 96), some (.int x1), some (.int x2), some (.int x3), some (.int x4), d5, some (.int x6)]) (st' := [.int x6, .int x1, .ref 96]) (sh' := sh_A) (M' := M) 3 rfl ?_
        obtain ⟨q6, hq7, h⟩ := Option.bind_eq_some_iff.mp h
        refine am_ev_call (mj := 167) (as := [.ref 96, .int x1, .int x6]) (rest := []) (rv := none) (sh' := sh_A) (M' := q6) rfl (te_167 _ _ _ _ hq7) ?_
        show am_ev _ 166 131 [some (.ref 96), some (.int x1), some (.int x2), some (.int x3), some (.int x4), d5, some (.int x6)] [] sh_A q6 _
        exact te_166_131 hk107 _ _ _ _ _ _ _ _ h
def fd_166_73 (k26 : Int32 → Int32 → Int32 → Int32 → Int32 → Int32 → am_M → Option (am_M)) (x1 : Int32) (x2 : Int32) (x3 : Int32) (x4 : Int32) (x5 : Int32) (x6 : Int32) (M : am_M) : Option (am_M) := k26 x1 x2 x3 x4 x5 (x6 + (1 : Int32)) M
set_option maxRecDepth 50000 in
theorem te_166_73 {L : Nat} {xs : Nat → Int32} {k26 : Int32 → Int32 → Int32 → Int32 → Int32 → Int32 → am_M → Option (am_M)} (hk26 : ∀ (x1 : Int32) (x2 : Int32) (x3 : Int32) (x4 : Int32) (x5 : Int32) (x6 : Int32) (M : am_M) (q : am_M), k26 x1 x2 x3 x4 x5 x6 M = some q → am_ev (tb_P L xs) 166 26 [some (.ref 96), some (.int x1), some (.int x2), some (.int x3), some (.int x4), some (.int x5), some (.int x6)] [] sh_A M (none, sh_A, q)) (x1 : Int32) (x2 : Int32) (x3 : Int32) (x4 : Int32) (x5 : Int32) (x6 : Int32) (M : am_M) (q : am_M) (h : fd_166_73 k26 x1 x2 x3 x4 x5 x6 M = some q) : am_ev (tb_P L xs) 166 73 [some (.ref 96), some (.int x1), some (.int x2), some (.int x3), some (.int x4), some (.int x5), some (.int x6)] [] sh_A M (none, sh_A, q) := by
  unfold fd_166_73 at h
  refine am_ev_go (pc' := 26) (L' := [some (.ref 96), some (.int x1), some (.int x2), some (.int x3), some (.int x4), some (.int x5), some (.int (x6 + (1 : Int32)))]) (st' := []) (sh' := sh_A) (M' := M) 2 rfl ?_
  exact hk26 _ _ _ _ _ _ _ _ h
def fd_166_26 (f : Nat) : Int32 → Int32 → Int32 → Int32 → Int32 → Int32 → am_M → Option (am_M) := Nat.rec (motive := fun _ => Int32 → Int32 → Int32 → Int32 → Int32 → Int32 → am_M → Option (am_M)) (fun _ _ _ _ _ _ _ => none) (fun _ k26 => fun x1 x2 x3 x4 x5 x6 M => if (16 : Int32) ≤ x6 then (if (((M 96 15) + x5) + (1 : Int32)) ≤ (20 : Int32) then (fd_166_107 1000 x1 x2 x3 x4 (0 : Int32) M) else (some (ds_w M 96 24 ((M 96 24) + (1 : Int32))))) else (if x6 < 0 ∨ 16 ≤ x6.toNatClampNeg then none else if (M 112 x6.toNatClampNeg) = (0 : Int32) then (fd_166_73 k26 x1 x2 x3 x4 x5 x6 M) else (if x6 < 0 ∨ 16 ≤ x6.toNatClampNeg then none else if (M 97 x6.toNatClampNeg) = x1 then (fd_166_73 k26 x1 x2 x3 x4 x5 x6 M) else (if (((16 : Int32) * x1) + x6) < 0 ∨ 64 ≤ (((16 : Int32) * x1) + x6).toNatClampNeg then none else if (2 : Int32) ≤ (M 100 (((16 : Int32) * x1) + x6).toNatClampNeg) then (fd_166_73 k26 x1 x2 x3 x4 x5 x6 M) else (fd_166_73 k26 x1 x2 x3 x4 (x5 + (1 : Int32)) x6 M))))) f
set_option maxRecDepth 50000 in
theorem te_166_26 {L : Nat} {xs : Nat → Int32} : ∀ (f : Nat) (x1 : Int32) (x2 : Int32) (x3 : Int32) (x4 : Int32) (x5 : Int32) (x6 : Int32) (M : am_M) (q : am_M), fd_166_26 f x1 x2 x3 x4 x5 x6 M = some q → am_ev (tb_P L xs) 166 26 [some (.ref 96), some (.int x1), some (.int x2), some (.int x3), some (.int x4), some (.int x5), some (.int x6)] [] sh_A M (none, sh_A, q) := by
  intro f
  induction f with
  | zero => intro x1 x2 x3 x4 x5 x6 M q h; cases h
  | succ f hk26 =>
    intro x1 x2 x3 x4 x5 x6 M q h
    change (if (16 : Int32) ≤ x6 then (if (((M 96 15) + x5) + (1 : Int32)) ≤ (20 : Int32) then (fd_166_107 1000 x1 x2 x3 x4 (0 : Int32) M) else (some (ds_w M 96 24 ((M 96 24) + (1 : Int32))))) else (if x6 < 0 ∨ 16 ≤ x6.toNatClampNeg then none else if (M 112 x6.toNatClampNeg) = (0 : Int32) then (fd_166_73 (fd_166_26 f) x1 x2 x3 x4 x5 x6 M) else (if x6 < 0 ∨ 16 ≤ x6.toNatClampNeg then none else if (M 97 x6.toNatClampNeg) = x1 then (fd_166_73 (fd_166_26 f) x1 x2 x3 x4 x5 x6 M) else (if (((16 : Int32) * x1) + x6) < 0 ∨ 64 ≤ (((16 : Int32) * x1) + x6).toNatClampNeg then none else if (2 : Int32) ≤ (M 100 (((16 : Int32) * x1) + x6).toNatClampNeg) then (fd_166_73 (fd_166_26 f) x1 x2 x3 x4 x5 x6 M) else (fd_166_73 (fd_166_26 f) x1 x2 x3 x4 (x5 + (1 : Int32)) x6 M))))) = some q at h
    refine am_ev_go (pc' := (am_br .ge x6 (16 : Int32) 79 33)) (L' := [some (.ref 96), some (.int x1), some (.int x2), some (.int x3), some (.int x4), some (.int x5), some (.int x6)]) (st' := []) (sh' := sh_A) (M' := M) 3 rfl ?_
    refine ev_ge (fun hc1 => ?_) (fun hc1 => ?_)
    · rw [if_pos hc1] at h
      refine am_ev_go (pc' := (am_br .le (((M 96 15) + x5) + (1 : Int32)) (20 : Int32) 104 93)) (L' := [some (.ref 96), some (.int x1), some (.int x2), some (.int x3), some (.int x4), some (.int x5), some (.int x6)]) (st' := []) (sh' := sh_A) (M' := M) 8 rfl ?_
      refine ev_le (fun hc2 => ?_) (fun hc2 => ?_)
      · rw [if_pos hc2] at h
        refine am_ev_go (pc' := 107) (L' := [some (.ref 96), some (.int x1), some (.int x2), some (.int x3), some (.int x4), some (.int x5), some (.int (0 : Int32))]) (st' := []) (sh' := sh_A) (M' := M) 2 rfl ?_
        exact te_166_107 1000 _ _ _ _ _ _ _ _ h
      · rw [if_neg hc2] at h
        refine am_ev_go (pc' := 103) (L' := [some (.ref 96), some (.int x1), some (.int x2), some (.int x3), some (.int x4), some (.int x5), some (.int x6)]) (st' := []) (sh' := sh_A) (M' := (ds_w M 96 24 ((M 96 24) + (1 : Int32)))) 6 rfl ?_
        cases h
        exact am_ev_ret rfl
    · rw [if_neg hc1] at h
      refine am_ev_go (pc' := 39) (L' := [some (.ref 96), some (.int x1), some (.int x2), some (.int x3), some (.int x4), some (.int x5), some (.int x6)]) (st' := [.int x6, .ref 112]) (sh' := sh_A) (M' := M) 3 rfl ?_
      by_cases hg3 : x6 < 0 ∨ 16 ≤ x6.toNatClampNeg
      case pos => rw [if_pos hg3] at h; cases h
      rw [if_neg hg3] at h
      refine ev_bald rfl rfl hg3 ?_
      refine am_ev_go (pc' := (am_br .eq (M 112 x6.toNatClampNeg) 0 73 43)) (L' := [some (.ref 96), some (.int x1), some (.int x2), some (.int x3), some (.int x4), some (.int x5), some (.int x6)]) (st' := []) (sh' := sh_A) (M' := M) 1 rfl ?_
      refine ev_eq (fun hc4 => ?_) (fun hc4 => ?_)
      · rw [if_pos hc4] at h
        exact te_166_73 hk26 _ _ _ _ _ _ _ _ h
      · rw [if_neg hc4] at h
        refine am_ev_go (pc' := 49) (L' := [some (.ref 96), some (.int x1), some (.int x2), some (.int x3), some (.int x4), some (.int x5), some (.int x6)]) (st' := [.int x6, .ref 97]) (sh' := sh_A) (M' := M) 3 rfl ?_
        by_cases hg5 : x6 < 0 ∨ 16 ≤ x6.toNatClampNeg
        case pos => rw [if_pos hg5] at h; cases h
        rw [if_neg hg5] at h
        refine ev_iald rfl rfl hg5 ?_
        refine am_ev_go (pc' := (am_br .eq (M 97 x6.toNatClampNeg) x1 73 54)) (L' := [some (.ref 96), some (.int x1), some (.int x2), some (.int x3), some (.int x4), some (.int x5), some (.int x6)]) (st' := []) (sh' := sh_A) (M' := M) 2 rfl ?_
        refine ev_eq (fun hc6 => ?_) (fun hc6 => ?_)
        · rw [if_pos hc6] at h
          exact te_166_73 hk26 _ _ _ _ _ _ _ _ h
        · rw [if_neg hc6] at h
          refine am_ev_go (pc' := 65) (L' := [some (.ref 96), some (.int x1), some (.int x2), some (.int x3), some (.int x4), some (.int x5), some (.int x6)]) (st' := [.int (((16 : Int32) * x1) + x6), .ref 100]) (sh' := sh_A) (M' := M) 7 rfl ?_
          by_cases hg7 : (((16 : Int32) * x1) + x6) < 0 ∨ 64 ≤ (((16 : Int32) * x1) + x6).toNatClampNeg
          case pos => rw [if_pos hg7] at h; cases h
          rw [if_neg hg7] at h
          refine ev_iald rfl rfl hg7 ?_
          refine am_ev_go (pc' := (am_br .ge (M 100 (((16 : Int32) * x1) + x6).toNatClampNeg) (2 : Int32) 73 70)) (L' := [some (.ref 96), some (.int x1), some (.int x2), some (.int x3), some (.int x4), some (.int x5), some (.int x6)]) (st' := []) (sh' := sh_A) (M' := M) 2 rfl ?_
          refine ev_ge (fun hc8 => ?_) (fun hc8 => ?_)
          · rw [if_pos hc8] at h
            exact te_166_73 hk26 _ _ _ _ _ _ _ _ h
          · rw [if_neg hc8] at h
            refine am_ev_go (pc' := 73) (L' := [some (.ref 96), some (.int x1), some (.int x2), some (.int x3), some (.int x4), some (.int (x5 + (1 : Int32))), some (.int x6)]) (st' := []) (sh' := sh_A) (M' := M) 1 rfl ?_
            exact te_166_73 hk26 _ _ _ _ _ _ _ _ h
/-- CountedActorsModel.send(IIII)V -/
def fd_166 (a1 : Int32) (a2 : Int32) (a3 : Int32) (a4 : Int32) (M : am_M) : Option (am_M) := (fd_158 M).bind fun q1 => if a3 < 0 ∨ 6 ≤ a3.toNatClampNeg then none else (fd_159 a4 (q1 102 a3.toNatClampNeg) q1).bind fun q4 => (fd_160 q4).bind fun q6 => fd_166_26 1000 a1 a2 a3 a4 (0 : Int32) (0 : Int32) q6
set_option maxRecDepth 50000 in
theorem te_166 {L : Nat} {xs : Nat → Int32} (a1 : Int32) (a2 : Int32) (a3 : Int32) (a4 : Int32) (M : am_M) (q : am_M) (h : fd_166 a1 a2 a3 a4 M = some q) : am_ev (tb_P L xs) 166 0 [some (.ref 96), some (.int a1), some (.int a2), some (.int a3), some (.int a4), none, none] [] sh_A M (none, sh_A, q) := by
  unfold fd_166 at h
  refine am_ev_go (pc' := 1) (L' := [some (.ref 96), some (.int a1), some (.int a2), some (.int a3), some (.int a4), none, none]) (st' := [.ref 96]) (sh' := sh_A) (M' := M) 1 rfl ?_
  obtain ⟨q1, hq2, h⟩ := Option.bind_eq_some_iff.mp h
  refine am_ev_call (mj := 158) (as := [.ref 96]) (rest := []) (rv := none) (sh' := sh_A) (M' := q1) rfl (te_158 _ _ hq2) ?_
  show am_ev _ 166 4 [some (.ref 96), some (.int a1), some (.int a2), some (.int a3), some (.int a4), none, none] [] sh_A q1 _
  refine am_ev_go (pc' := 12) (L' := [some (.ref 96), some (.int a1), some (.int a2), some (.int a3), some (.int a4), none, none]) (st' := [.int a3, .ref 102, .int a4, .ref 96]) (sh' := sh_A) (M' := q1) 5 rfl ?_
  by_cases hg3 : a3 < 0 ∨ 6 ≤ a3.toNatClampNeg
  case pos => rw [if_pos hg3] at h; cases h
  rw [if_neg hg3] at h
  refine ev_iald rfl rfl hg3 ?_
  obtain ⟨q4, hq5, h⟩ := Option.bind_eq_some_iff.mp h
  refine am_ev_call (mj := 159) (as := [.ref 96, .int a4, .int (q1 102 a3.toNatClampNeg)]) (rest := []) (rv := none) (sh' := sh_A) (M' := q4) rfl (te_159 _ _ _ _ hq5) ?_
  show am_ev _ 166 16 [some (.ref 96), some (.int a1), some (.int a2), some (.int a3), some (.int a4), none, none] [] sh_A q4 _
  refine am_ev_go (pc' := 17) (L' := [some (.ref 96), some (.int a1), some (.int a2), some (.int a3), some (.int a4), none, none]) (st' := [.ref 96]) (sh' := sh_A) (M' := q4) 1 rfl ?_
  obtain ⟨q6, hq7, h⟩ := Option.bind_eq_some_iff.mp h
  refine am_ev_call (mj := 160) (as := [.ref 96]) (rest := []) (rv := none) (sh' := sh_A) (M' := q6) rfl (te_160 _ _ hq7) ?_
  show am_ev _ 166 20 [some (.ref 96), some (.int a1), some (.int a2), some (.int a3), some (.int a4), none, none] [] sh_A q6 _
  refine am_ev_go (pc' := 26) (L' := [some (.ref 96), some (.int a1), some (.int a2), some (.int a3), some (.int a4), some (.int (0 : Int32)), some (.int (0 : Int32))]) (st' := []) (sh' := sh_A) (M' := q6) 4 rfl ?_
  exact te_166_26 1000 _ _ _ _ _ _ _ _ h
def fd_161_82 (x4 : Int32) (x5 : Int32) (M : am_M) : Option (am_M) := if x5 < 0 ∨ 6 ≤ x5.toNatClampNeg then none else if x4 < 0 ∨ 6 ≤ x4.toNatClampNeg then none else some (ds_w M 115 x4.toNatClampNeg (M 115 x5.toNatClampNeg))
set_option maxRecDepth 50000 in
theorem te_161_82 {L : Nat} {xs : Nat → Int32} (x4 : Int32) (x5 : Int32) (M : am_M) (q : am_M) (d1 d2 d3 d6 d7 d8 : Option Value) (h : fd_161_82 x4 x5 M = some q) : am_ev (tb_P L xs) 161 82 [some (.ref 96), d1, d2, d3, some (.int x4), some (.int x5), d6, d7, d8] [] sh_A M (none, sh_A, q) := by
  unfold fd_161_82 at h
  refine am_ev_go (pc' := 94) (L' := [some (.ref 96), d1, d2, d3, some (.int x4), some (.int x5), d6, d7, d8]) (st' := [.int x5, .ref 115, .int x4, .ref 115]) (sh' := sh_A) (M' := M) 6 rfl ?_
  by_cases hg1 : x5 < 0 ∨ 6 ≤ x5.toNatClampNeg
  case pos => rw [if_pos hg1] at h; cases h
  rw [if_neg hg1] at h
  refine ev_iald rfl rfl hg1 ?_
  by_cases hg2 : x4 < 0 ∨ 6 ≤ x4.toNatClampNeg
  case pos => rw [if_pos hg2] at h; cases h
  rw [if_neg hg2] at h
  refine ev_iast rfl rfl hg2 ?_
  refine am_ev_go (pc' := 293) (L' := [some (.ref 96), d1, d2, d3, some (.int x4), some (.int x5), d6, d7, d8]) (st' := []) (sh' := sh_A) (M' := (ds_w M 115 x4.toNatClampNeg (M 115 x5.toNatClampNeg))) 1 rfl ?_
  cases h
  exact am_ev_ret rfl
/-- CountedActorsModel.act(II)V -/
def fd_161 (a1 : Int32) (a2 : Int32) (M : am_M) : Option (am_M) := if a2 < 0 ∨ 300 ≤ a2.toNatClampNeg then none else if (a2 + (1 : Int32)) < 0 ∨ 300 ≤ (a2 + (1 : Int32)).toNatClampNeg then none else if (a2 + (2 : Int32)) < 0 ∨ 300 ≤ (a2 + (2 : Int32)).toNatClampNeg then none else if (a2 + (3 : Int32)) < 0 ∨ 300 ≤ (a2 + (3 : Int32)).toNatClampNeg then none else if (a2 + (4 : Int32)) < 0 ∨ 300 ≤ (a2 + (4 : Int32)).toNatClampNeg then none else if (M 104 a2.toNatClampNeg) = (0 : Int32) then ((fd_162 a1 M).bind fun q43 => if (M 104 (a2 + (1 : Int32)).toNatClampNeg) < 0 ∨ 6 ≤ (M 104 (a2 + (1 : Int32)).toNatClampNeg).toNatClampNeg then none else some (ds_w q43.2 115 (M 104 (a2 + (1 : Int32)).toNatClampNeg).toNatClampNeg q43.1)) else (if (M 104 a2.toNatClampNeg) = (1 : Int32) then (fd_161_82 (M 104 (a2 + (1 : Int32)).toNatClampNeg) (M 104 (a2 + (2 : Int32)).toNatClampNeg) M) else (if (M 104 a2.toNatClampNeg) = (2 : Int32) then (fd_161_82 (M 104 (a2 + (1 : Int32)).toNatClampNeg) (M 104 (a2 + (2 : Int32)).toNatClampNeg) M) else (if (M 104 a2.toNatClampNeg) = (10 : Int32) then (fd_161_82 (M 104 (a2 + (1 : Int32)).toNatClampNeg) (M 104 (a2 + (2 : Int32)).toNatClampNeg) M) else (if (M 104 a2.toNatClampNeg) = (3 : Int32) then ((fd_163 a1 (M 104 (a2 + (2 : Int32)).toNatClampNeg) (M 104 (a2 + (3 : Int32)).toNatClampNeg) M).bind fun q40 => if (M 104 (a2 + (1 : Int32)).toNatClampNeg) < 0 ∨ 6 ≤ (M 104 (a2 + (1 : Int32)).toNatClampNeg).toNatClampNeg then none else some (ds_w q40.2 115 (M 104 (a2 + (1 : Int32)).toNatClampNeg).toNatClampNeg q40.1)) else (if (M 104 a2.toNatClampNeg) = (4 : Int32) then (if (M 104 (a2 + (4 : Int32)).toNatClampNeg) < 0 ∨ 6 ≤ (M 104 (a2 + (4 : Int32)).toNatClampNeg).toNatClampNeg then none else (fd_164 a1 (M 104 (a2 + (2 : Int32)).toNatClampNeg) (M 104 (a2 + (3 : Int32)).toNatClampNeg) (M 115 (M 104 (a2 + (4 : Int32)).toNatClampNeg).toNatClampNeg) M).bind fun q38 => some q38) else (if (M 104 a2.toNatClampNeg) = (5 : Int32) then ((fd_163 a1 (M 104 (a2 + (2 : Int32)).toNatClampNeg) (M 104 (a2 + (3 : Int32)).toNatClampNeg) M).bind fun q31 => if (M 104 (a2 + (4 : Int32)).toNatClampNeg) < 0 ∨ 6 ≤ (M 104 (a2 + (4 : Int32)).toNatClampNeg).toNatClampNeg then none else (fd_164 a1 (M 104 (a2 + (2 : Int32)).toNatClampNeg) (M 104 (a2 + (3 : Int32)).toNatClampNeg) (q31.2 115 (M 104 (a2 + (4 : Int32)).toNatClampNeg).toNatClampNeg) q31.2).bind fun q34 => if (M 104 (a2 + (1 : Int32)).toNatClampNeg) < 0 ∨ 6 ≤ (M 104 (a2 + (1 : Int32)).toNatClampNeg).toNatClampNeg then none else some (ds_w q34 115 (M 104 (a2 + (1 : Int32)).toNatClampNeg).toNatClampNeg q31.1)) else (if (M 104 a2.toNatClampNeg) = (6 : Int32) then (if (M 104 (a2 + (2 : Int32)).toNatClampNeg) < 0 ∨ 6 ≤ (M 104 (a2 + (2 : Int32)).toNatClampNeg).toNatClampNeg then none else if (M 115 (M 104 (a2 + (2 : Int32)).toNatClampNeg).toNatClampNeg) = (-1 : Int32) then (some M) else (if (M 104 (a2 + (2 : Int32)).toNatClampNeg) < 0 ∨ 6 ≤ (M 104 (a2 + (2 : Int32)).toNatClampNeg).toNatClampNeg then none else if (M 115 (M 104 (a2 + (2 : Int32)).toNatClampNeg).toNatClampNeg) < 0 ∨ 16 ≤ (M 115 (M 104 (a2 + (2 : Int32)).toNatClampNeg).toNatClampNeg).toNatClampNeg then none else if (M 115 (M 104 (a2 + (2 : Int32)).toNatClampNeg).toNatClampNeg) < 0 ∨ 16 ≤ (M 115 (M 104 (a2 + (2 : Int32)).toNatClampNeg).toNatClampNeg).toNatClampNeg then none else some (ds_w M 98 (M 115 (M 104 (a2 + (2 : Int32)).toNatClampNeg).toNatClampNeg).toNatClampNeg ((M 98 (M 115 (M 104 (a2 + (2 : Int32)).toNatClampNeg).toNatClampNeg).toNatClampNeg) + (M 104 (a2 + (4 : Int32)).toNatClampNeg))))) else (if (M 104 a2.toNatClampNeg) = (7 : Int32) then (if (M 104 (a2 + (2 : Int32)).toNatClampNeg) < 0 ∨ 6 ≤ (M 104 (a2 + (2 : Int32)).toNatClampNeg).toNatClampNeg then none else if (M 115 (M 104 (a2 + (2 : Int32)).toNatClampNeg).toNatClampNeg) = (-1 : Int32) then (some M) else (if (M 104 (a2 + (2 : Int32)).toNatClampNeg) < 0 ∨ 6 ≤ (M 104 (a2 + (2 : Int32)).toNatClampNeg).toNatClampNeg then none else if (M 115 (M 104 (a2 + (2 : Int32)).toNatClampNeg).toNatClampNeg) < 0 ∨ 16 ≤ (M 115 (M 104 (a2 + (2 : Int32)).toNatClampNeg).toNatClampNeg).toNatClampNeg then none else (fd_165 (M 98 (M 115 (M 104 (a2 + (2 : Int32)).toNatClampNeg).toNatClampNeg).toNatClampNeg) M).bind fun q24 => some q24)) else (if (M 104 a2.toNatClampNeg) = (8 : Int32) then (if (M 96 0) = 0 then none else if (M 104 (a2 + (4 : Int32)).toNatClampNeg) < 0 ∨ 6 ≤ (M 104 (a2 + (4 : Int32)).toNatClampNeg).toNatClampNeg then none else (fd_166 a1 ((a1 + (M 104 (a2 + (1 : Int32)).toNatClampNeg)) - (a1 + (M 104 (a2 + (1 : Int32)).toNatClampNeg)) / (M 96 0) * (M 96 0)) (M 104 (a2 + (2 : Int32)).toNatClampNeg) (M 115 (M 104 (a2 + (4 : Int32)).toNatClampNeg).toNatClampNeg) M).bind fun q18 => some q18) else (some M))))))))))
set_option maxRecDepth 50000 in
theorem te_161 {L : Nat} {xs : Nat → Int32} (a1 : Int32) (a2 : Int32) (M : am_M) (q : am_M) (h : fd_161 a1 a2 M = some q) : am_ev (tb_P L xs) 161 0 [some (.ref 96), some (.int a1), some (.int a2), none, none, none, none, none, none] [] sh_A M (none, sh_A, q) := by
  unfold fd_161 at h
  refine am_ev_go (pc' := 5) (L' := [some (.ref 96), some (.int a1), some (.int a2), none, none, none, none, none, none]) (st' := [.int a2, .ref 104]) (sh' := sh_A) (M' := M) 3 rfl ?_
  by_cases hg1 : a2 < 0 ∨ 300 ≤ a2.toNatClampNeg
  case pos => rw [if_pos hg1] at h; cases h
  rw [if_neg hg1] at h
  refine ev_iald rfl rfl hg1 ?_
  refine am_ev_go (pc' := 14) (L' := [some (.ref 96), some (.int a1), some (.int a2), some (.int (M 104 a2.toNatClampNeg)), none, none, none, none, none]) (st' := [.int (a2 + (1 : Int32)), .ref 104]) (sh' := sh_A) (M' := M) 6 rfl ?_
  by_cases hg2 : (a2 + (1 : Int32)) < 0 ∨ 300 ≤ (a2 + (1 : Int32)).toNatClampNeg
  case pos => rw [if_pos hg2] at h; cases h
  rw [if_neg hg2] at h
  refine ev_iald rfl rfl hg2 ?_
  refine am_ev_go (pc' := 24) (L' := [some (.ref 96), some (.int a1), some (.int a2), some (.int (M 104 a2.toNatClampNeg)), some (.int (M 104 (a2 + (1 : Int32)).toNatClampNeg)), none, none, none, none]) (st' := [.int (a2 + (2 : Int32)), .ref 104]) (sh' := sh_A) (M' := M) 6 rfl ?_
  by_cases hg3 : (a2 + (2 : Int32)) < 0 ∨ 300 ≤ (a2 + (2 : Int32)).toNatClampNeg
  case pos => rw [if_pos hg3] at h; cases h
  rw [if_neg hg3] at h
  refine ev_iald rfl rfl hg3 ?_
  refine am_ev_go (pc' := 34) (L' := [some (.ref 96), some (.int a1), some (.int a2), some (.int (M 104 a2.toNatClampNeg)), some (.int (M 104 (a2 + (1 : Int32)).toNatClampNeg)), some (.int (M 104 (a2 + (2 : Int32)).toNatClampNeg)), none, none, none]) (st' := [.int (a2 + (3 : Int32)), .ref 104]) (sh' := sh_A) (M' := M) 6 rfl ?_
  by_cases hg4 : (a2 + (3 : Int32)) < 0 ∨ 300 ≤ (a2 + (3 : Int32)).toNatClampNeg
  case pos => rw [if_pos hg4] at h; cases h
  rw [if_neg hg4] at h
  refine ev_iald rfl rfl hg4 ?_
  refine am_ev_go (pc' := 44) (L' := [some (.ref 96), some (.int a1), some (.int a2), some (.int (M 104 a2.toNatClampNeg)), some (.int (M 104 (a2 + (1 : Int32)).toNatClampNeg)), some (.int (M 104 (a2 + (2 : Int32)).toNatClampNeg)), some (.int (M 104 (a2 + (3 : Int32)).toNatClampNeg)), none, none]) (st' := [.int (a2 + (4 : Int32)), .ref 104]) (sh' := sh_A) (M' := M) 6 rfl ?_
  by_cases hg5 : (a2 + (4 : Int32)) < 0 ∨ 300 ≤ (a2 + (4 : Int32)).toNatClampNeg
  case pos => rw [if_pos hg5] at h; cases h
  rw [if_neg hg5] at h
  refine ev_iald rfl rfl hg5 ?_
  refine am_ev_go (pc' := (am_br .ne (M 104 a2.toNatClampNeg) 0 66 51)) (L' := [some (.ref 96), some (.int a1), some (.int a2), some (.int (M 104 a2.toNatClampNeg)), some (.int (M 104 (a2 + (1 : Int32)).toNatClampNeg)), some (.int (M 104 (a2 + (2 : Int32)).toNatClampNeg)), some (.int (M 104 (a2 + (3 : Int32)).toNatClampNeg)), some (.int (M 104 (a2 + (4 : Int32)).toNatClampNeg)), none]) (st' := []) (sh' := sh_A) (M' := M) 3 rfl ?_
  refine ev_ne (fun hc6 => ?_) (fun hc6 => ?_)
  · rw [if_neg hc6] at h
    refine am_ev_go (pc' := (am_br .eq (M 104 a2.toNatClampNeg) (1 : Int32) 82 71)) (L' := [some (.ref 96), some (.int a1), some (.int a2), some (.int (M 104 a2.toNatClampNeg)), some (.int (M 104 (a2 + (1 : Int32)).toNatClampNeg)), some (.int (M 104 (a2 + (2 : Int32)).toNatClampNeg)), some (.int (M 104 (a2 + (3 : Int32)).toNatClampNeg)), some (.int (M 104 (a2 + (4 : Int32)).toNatClampNeg)), none]) (st' := []) (sh' := sh_A) (M' := M) 3 rfl ?_
    refine ev_eq (fun hc7 => ?_) (fun hc7 => ?_)
    · rw [if_pos hc7] at h
      exact te_161_82 _ _ _ _ _ _ _ _ _ _ h
    · rw [if_neg hc7] at h
      refine am_ev_go (pc' := (am_br .eq (M 104 a2.toNatClampNeg) (2 : Int32) 82 76)) (L' := [some (.ref 96), some (.int a1), some (.int a2), some (.int (M 104 a2.toNatClampNeg)), some (.int (M 104 (a2 + (1 : Int32)).toNatClampNeg)), some (.int (M 104 (a2 + (2 : Int32)).toNatClampNeg)), some (.int (M 104 (a2 + (3 : Int32)).toNatClampNeg)), some (.int (M 104 (a2 + (4 : Int32)).toNatClampNeg)), none]) (st' := []) (sh' := sh_A) (M' := M) 3 rfl ?_
      refine ev_eq (fun hc8 => ?_) (fun hc8 => ?_)
      · rw [if_pos hc8] at h
        exact te_161_82 _ _ _ _ _ _ _ _ _ _ h
      · rw [if_neg hc8] at h
        refine am_ev_go (pc' := (am_br .ne (M 104 a2.toNatClampNeg) (10 : Int32) 99 82)) (L' := [some (.ref 96), some (.int a1), some (.int a2), some (.int (M 104 a2.toNatClampNeg)), some (.int (M 104 (a2 + (1 : Int32)).toNatClampNeg)), some (.int (M 104 (a2 + (2 : Int32)).toNatClampNeg)), some (.int (M 104 (a2 + (3 : Int32)).toNatClampNeg)), some (.int (M 104 (a2 + (4 : Int32)).toNatClampNeg)), none]) (st' := []) (sh' := sh_A) (M' := M) 3 rfl ?_
        refine ev_ne (fun hc9 => ?_) (fun hc9 => ?_)
        · rw [if_neg hc9] at h
          refine am_ev_go (pc' := (am_br .ne (M 104 a2.toNatClampNeg) (3 : Int32) 123 104)) (L' := [some (.ref 96), some (.int a1), some (.int a2), some (.int (M 104 a2.toNatClampNeg)), some (.int (M 104 (a2 + (1 : Int32)).toNatClampNeg)), some (.int (M 104 (a2 + (2 : Int32)).toNatClampNeg)), some (.int (M 104 (a2 + (3 : Int32)).toNatClampNeg)), some (.int (M 104 (a2 + (4 : Int32)).toNatClampNeg)), none]) (st' := []) (sh' := sh_A) (M' := M) 3 rfl ?_
          refine ev_ne (fun hc10 => ?_) (fun hc10 => ?_)
          · rw [if_neg hc10] at h
            refine am_ev_go (pc' := (am_br .ne (M 104 a2.toNatClampNeg) (4 : Int32) 147 128)) (L' := [some (.ref 96), some (.int a1), some (.int a2), some (.int (M 104 a2.toNatClampNeg)), some (.int (M 104 (a2 + (1 : Int32)).toNatClampNeg)), some (.int (M 104 (a2 + (2 : Int32)).toNatClampNeg)), some (.int (M 104 (a2 + (3 : Int32)).toNatClampNeg)), some (.int (M 104 (a2 + (4 : Int32)).toNatClampNeg)), none]) (st' := []) (sh' := sh_A) (M' := M) 3 rfl ?_
            refine ev_ne (fun hc11 => ?_) (fun hc11 => ?_)
            · rw [if_neg hc11] at h
              refine am_ev_go (pc' := (am_br .ne (M 104 a2.toNatClampNeg) (5 : Int32) 191 152)) (L' := [some (.ref 96), some (.int a1), some (.int a2), some (.int (M 104 a2.toNatClampNeg)), some (.int (M 104 (a2 + (1 : Int32)).toNatClampNeg)), some (.int (M 104 (a2 + (2 : Int32)).toNatClampNeg)), some (.int (M 104 (a2 + (3 : Int32)).toNatClampNeg)), some (.int (M 104 (a2 + (4 : Int32)).toNatClampNeg)), none]) (st' := []) (sh' := sh_A) (M' := M) 3 rfl ?_
              refine ev_ne (fun hc12 => ?_) (fun hc12 => ?_)
              · rw [if_neg hc12] at h
                refine am_ev_go (pc' := (am_br .ne (M 104 a2.toNatClampNeg) (6 : Int32) 228 197)) (L' := [some (.ref 96), some (.int a1), some (.int a2), some (.int (M 104 a2.toNatClampNeg)), some (.int (M 104 (a2 + (1 : Int32)).toNatClampNeg)), some (.int (M 104 (a2 + (2 : Int32)).toNatClampNeg)), some (.int (M 104 (a2 + (3 : Int32)).toNatClampNeg)), some (.int (M 104 (a2 + (4 : Int32)).toNatClampNeg)), none]) (st' := []) (sh' := sh_A) (M' := M) 3 rfl ?_
                refine ev_ne (fun hc13 => ?_) (fun hc13 => ?_)
                · rw [if_neg hc13] at h
                  refine am_ev_go (pc' := (am_br .ne (M 104 a2.toNatClampNeg) (7 : Int32) 264 234)) (L' := [some (.ref 96), some (.int a1), some (.int a2), some (.int (M 104 a2.toNatClampNeg)), some (.int (M 104 (a2 + (1 : Int32)).toNatClampNeg)), some (.int (M 104 (a2 + (2 : Int32)).toNatClampNeg)), some (.int (M 104 (a2 + (3 : Int32)).toNatClampNeg)), some (.int (M 104 (a2 + (4 : Int32)).toNatClampNeg)), none]) (st' := []) (sh' := sh_A) (M' := M) 3 rfl ?_
                  refine ev_ne (fun hc14 => ?_) (fun hc14 => ?_)
                  · rw [if_neg hc14] at h
                    refine am_ev_go (pc' := (am_br .ne (M 104 a2.toNatClampNeg) (8 : Int32) 293 270)) (L' := [some (.ref 96), some (.int a1), some (.int a2), some (.int (M 104 a2.toNatClampNeg)), some (.int (M 104 (a2 + (1 : Int32)).toNatClampNeg)), some (.int (M 104 (a2 + (2 : Int32)).toNatClampNeg)), some (.int (M 104 (a2 + (3 : Int32)).toNatClampNeg)), some (.int (M 104 (a2 + (4 : Int32)).toNatClampNeg)), none]) (st' := []) (sh' := sh_A) (M' := M) 3 rfl ?_
                    refine ev_ne (fun hc15 => ?_) (fun hc15 => ?_)
                    · rw [if_neg hc15] at h
                      cases h
                      exact am_ev_ret rfl
                    · rw [if_pos hc15] at h
                      refine am_ev_go (pc' := 280) (L' := [some (.ref 96), some (.int a1), some (.int a2), some (.int (M 104 a2.toNatClampNeg)), some (.int (M 104 (a2 + (1 : Int32)).toNatClampNeg)), some (.int (M 104 (a2 + (2 : Int32)).toNatClampNeg)), some (.int (M 104 (a2 + (3 : Int32)).toNatClampNeg)), some (.int (M 104 (a2 + (4 : Int32)).toNatClampNeg)), none]) (st' := [.int (M 96 0), .int (a1 + (M 104 (a2 + (1 : Int32)).toNatClampNeg)), .int a1, .ref 96]) (sh' := sh_A) (M' := M) 7 rfl ?_
                      by_cases hg16 : (M 96 0) = 0
                      case pos => rw [if_pos hg16] at h; cases h
                      rw [if_neg hg16] at h
                      refine ev_irem rfl hg16 ?_
                      refine am_ev_go (pc' := 289) (L' := [some (.ref 96), some (.int a1), some (.int a2), some (.int (M 104 a2.toNatClampNeg)), some (.int (M 104 (a2 + (1 : Int32)).toNatClampNeg)), some (.int (M 104 (a2 + (2 : Int32)).toNatClampNeg)), some (.int (M 104 (a2 + (3 : Int32)).toNatClampNeg)), some (.int (M 104 (a2 + (4 : Int32)).toNatClampNeg)), none]) (st' := [.int (M 104 (a2 + (4 : Int32)).toNatClampNeg), .ref 115, .int (M 104 (a2 + (2 : Int32)).toNatClampNeg), .int ((a1 + (M 104 (a2 + (1 : Int32)).toNatClampNeg)) - (a1 + (M 104 (a2 + (1 : Int32)).toNatClampNeg)) / (M 96 0) * (M 96 0)), .int a1, .ref 96]) (sh' := sh_A) (M' := M) 4 rfl ?_
                      by_cases hg17 : (M 104 (a2 + (4 : Int32)).toNatClampNeg) < 0 ∨ 6 ≤ (M 104 (a2 + (4 : Int32)).toNatClampNeg).toNatClampNeg
                      case pos => rw [if_pos hg17] at h; cases h
                      rw [if_neg hg17] at h
                      refine ev_iald rfl rfl hg17 ?_
                      obtain ⟨q18, hq19, h⟩ := Option.bind_eq_some_iff.mp h
                      refine am_ev_call (mj := 166) (as := [.ref 96, .int a1, .int ((a1 + (M 104 (a2 + (1 : Int32)).toNatClampNeg)) - (a1 + (M 104 (a2 + (1 : Int32)).toNatClampNeg)) / (M 96 0) * (M 96 0)), .int (M 104 (a2 + (2 : Int32)).toNatClampNeg), .int (M 115 (M 104 (a2 + (4 : Int32)).toNatClampNeg).toNatClampNeg)]) (rest := []) (rv := none) (sh' := sh_A) (M' := q18) rfl (te_166 _ _ _ _ _ _ hq19) ?_
                      show am_ev _ 161 293 [some (.ref 96), some (.int a1), some (.int a2), some (.int (M 104 a2.toNatClampNeg)), some (.int (M 104 (a2 + (1 : Int32)).toNatClampNeg)), some (.int (M 104 (a2 + (2 : Int32)).toNatClampNeg)), some (.int (M 104 (a2 + (3 : Int32)).toNatClampNeg)), some (.int (M 104 (a2 + (4 : Int32)).toNatClampNeg)), none] [] sh_A q18 _
                      cases h
                      exact am_ev_ret rfl
                  · rw [if_pos hc14] at h
                    refine am_ev_go (pc' := 240) (L' := [some (.ref 96), some (.int a1), some (.int a2), some (.int (M 104 a2.toNatClampNeg)), some (.int (M 104 (a2 + (1 : Int32)).toNatClampNeg)), some (.int (M 104 (a2 + (2 : Int32)).toNatClampNeg)), some (.int (M 104 (a2 + (3 : Int32)).toNatClampNeg)), some (.int (M 104 (a2 + (4 : Int32)).toNatClampNeg)), none]) (st' := [.int (M 104 (a2 + (2 : Int32)).toNatClampNeg), .ref 115]) (sh' := sh_A) (M' := M) 3 rfl ?_
                    by_cases hg20 : (M 104 (a2 + (2 : Int32)).toNatClampNeg) < 0 ∨ 6 ≤ (M 104 (a2 + (2 : Int32)).toNatClampNeg).toNatClampNeg
                    case pos => rw [if_pos hg20] at h; cases h
                    rw [if_neg hg20] at h
                    refine ev_iald rfl rfl hg20 ?_
                    refine am_ev_go (pc' := (am_br .eq (M 115 (M 104 (a2 + (2 : Int32)).toNatClampNeg).toNatClampNeg) (-1 : Int32) 293 245)) (L' := [some (.ref 96), some (.int a1), some (.int a2), some (.int (M 104 a2.toNatClampNeg)), some (.int (M 104 (a2 + (1 : Int32)).toNatClampNeg)), some (.int (M 104 (a2 + (2 : Int32)).toNatClampNeg)), some (.int (M 104 (a2 + (3 : Int32)).toNatClampNeg)), some (.int (M 104 (a2 + (4 : Int32)).toNatClampNeg)), none]) (st' := []) (sh' := sh_A) (M' := M) 2 rfl ?_
                    refine ev_eq (fun hc21 => ?_) (fun hc21 => ?_)
                    · rw [if_pos hc21] at h
                      cases h
                      exact am_ev_ret rfl
                    · rw [if_neg hc21] at h
                      refine am_ev_go (pc' := 256) (L' := [some (.ref 96), some (.int a1), some (.int a2), some (.int (M 104 a2.toNatClampNeg)), some (.int (M 104 (a2 + (1 : Int32)).toNatClampNeg)), some (.int (M 104 (a2 + (2 : Int32)).toNatClampNeg)), some (.int (M 104 (a2 + (3 : Int32)).toNatClampNeg)), some (.int (M 104 (a2 + (4 : Int32)).toNatClampNeg)), none]) (st' := [.int (M 104 (a2 + (2 : Int32)).toNatClampNeg), .ref 115, .ref 98, .ref 96]) (sh' := sh_A) (M' := M) 6 rfl ?_
                      by_cases hg22 : (M 104 (a2 + (2 : Int32)).toNatClampNeg) < 0 ∨ 6 ≤ (M 104 (a2 + (2 : Int32)).toNatClampNeg).toNatClampNeg
                      case pos => rw [if_pos hg22] at h; cases h
                      rw [if_neg hg22] at h
                      refine ev_iald rfl rfl hg22 ?_
                      by_cases hg23 : (M 115 (M 104 (a2 + (2 : Int32)).toNatClampNeg).toNatClampNeg) < 0 ∨ 16 ≤ (M 115 (M 104 (a2 + (2 : Int32)).toNatClampNeg).toNatClampNeg).toNatClampNeg
                      case pos => rw [if_pos hg23] at h; cases h
                      rw [if_neg hg23] at h
                      refine ev_iald rfl rfl hg23 ?_
                      obtain ⟨q24, hq25, h⟩ := Option.bind_eq_some_iff.mp h
                      refine am_ev_call (mj := 165) (as := [.ref 96, .int (M 98 (M 115 (M 104 (a2 + (2 : Int32)).toNatClampNeg).toNatClampNeg).toNatClampNeg)]) (rest := []) (rv := none) (sh' := sh_A) (M' := q24) rfl (te_165 _ _ _ hq25) ?_
                      show am_ev _ 161 261 [some (.ref 96), some (.int a1), some (.int a2), some (.int (M 104 a2.toNatClampNeg)), some (.int (M 104 (a2 + (1 : Int32)).toNatClampNeg)), some (.int (M 104 (a2 + (2 : Int32)).toNatClampNeg)), some (.int (M 104 (a2 + (3 : Int32)).toNatClampNeg)), some (.int (M 104 (a2 + (4 : Int32)).toNatClampNeg)), none] [] sh_A q24 _
                      refine am_ev_go (pc' := 293) (L' := [some (.ref 96), some (.int a1), some (.int a2), some (.int (M 104 a2.toNatClampNeg)), some (.int (M 104 (a2 + (1 : Int32)).toNatClampNeg)), some (.int (M 104 (a2 + (2 : Int32)).toNatClampNeg)), some (.int (M 104 (a2 + (3 : Int32)).toNatClampNeg)), some (.int (M 104 (a2 + (4 : Int32)).toNatClampNeg)), none]) (st' := []) (sh' := sh_A) (M' := q24) 1 rfl ?_
                      cases h
                      exact am_ev_ret rfl
                · rw [if_pos hc13] at h
                  refine am_ev_go (pc' := 203) (L' := [some (.ref 96), some (.int a1), some (.int a2), some (.int (M 104 a2.toNatClampNeg)), some (.int (M 104 (a2 + (1 : Int32)).toNatClampNeg)), some (.int (M 104 (a2 + (2 : Int32)).toNatClampNeg)), some (.int (M 104 (a2 + (3 : Int32)).toNatClampNeg)), some (.int (M 104 (a2 + (4 : Int32)).toNatClampNeg)), none]) (st' := [.int (M 104 (a2 + (2 : Int32)).toNatClampNeg), .ref 115]) (sh' := sh_A) (M' := M) 3 rfl ?_
                  by_cases hg26 : (M 104 (a2 + (2 : Int32)).toNatClampNeg) < 0 ∨ 6 ≤ (M 104 (a2 + (2 : Int32)).toNatClampNeg).toNatClampNeg
                  case pos => rw [if_pos hg26] at h; cases h
                  rw [if_neg hg26] at h
                  refine ev_iald rfl rfl hg26 ?_
                  refine am_ev_go (pc' := (am_br .eq (M 115 (M 104 (a2 + (2 : Int32)).toNatClampNeg).toNatClampNeg) (-1 : Int32) 293 208)) (L' := [some (.ref 96), some (.int a1), some (.int a2), some (.int (M 104 a2.toNatClampNeg)), some (.int (M 104 (a2 + (1 : Int32)).toNatClampNeg)), some (.int (M 104 (a2 + (2 : Int32)).toNatClampNeg)), some (.int (M 104 (a2 + (3 : Int32)).toNatClampNeg)), some (.int (M 104 (a2 + (4 : Int32)).toNatClampNeg)), none]) (st' := []) (sh' := sh_A) (M' := M) 2 rfl ?_
                  refine ev_eq (fun hc27 => ?_) (fun hc27 => ?_)
                  · rw [if_pos hc27] at h
                    cases h
                    exact am_ev_ret rfl
                  · rw [if_neg hc27] at h
                    refine am_ev_go (pc' := 218) (L' := [some (.ref 96), some (.int a1), some (.int a2), some (.int (M 104 a2.toNatClampNeg)), some (.int (M 104 (a2 + (1 : Int32)).toNatClampNeg)), some (.int (M 104 (a2 + (2 : Int32)).toNatClampNeg)), some (.int (M 104 (a2 + (3 : Int32)).toNatClampNeg)), some (.int (M 104 (a2 + (4 : Int32)).toNatClampNeg)), none]) (st' := [.int (M 104 (a2 + (2 : Int32)).toNatClampNeg), .ref 115, .ref 98]) (sh' := sh_A) (M' := M) 5 rfl ?_
                    by_cases hg28 : (M 104 (a2 + (2 : Int32)).toNatClampNeg) < 0 ∨ 6 ≤ (M 104 (a2 + (2 : Int32)).toNatClampNeg).toNatClampNeg
                    case pos => rw [if_pos hg28] at h; cases h
                    rw [if_neg hg28] at h
                    refine ev_iald rfl rfl hg28 ?_
                    refine am_ev_go (pc' := 220) (L' := [some (.ref 96), some (.int a1), some (.int a2), some (.int (M 104 a2.toNatClampNeg)), some (.int (M 104 (a2 + (1 : Int32)).toNatClampNeg)), some (.int (M 104 (a2 + (2 : Int32)).toNatClampNeg)), some (.int (M 104 (a2 + (3 : Int32)).toNatClampNeg)), some (.int (M 104 (a2 + (4 : Int32)).toNatClampNeg)), none]) (st' := [.int (M 115 (M 104 (a2 + (2 : Int32)).toNatClampNeg).toNatClampNeg), .ref 98, .int (M 115 (M 104 (a2 + (2 : Int32)).toNatClampNeg).toNatClampNeg), .ref 98]) (sh' := sh_A) (M' := M) 1 rfl ?_
                    by_cases hg29 : (M 115 (M 104 (a2 + (2 : Int32)).toNatClampNeg).toNatClampNeg) < 0 ∨ 16 ≤ (M 115 (M 104 (a2 + (2 : Int32)).toNatClampNeg).toNatClampNeg).toNatClampNeg
                    case pos => rw [if_pos hg29] at h; cases h
                    rw [if_neg hg29] at h
                    refine ev_iald rfl rfl hg29 ?_
                    refine am_ev_go (pc' := 224) (L' := [some (.ref 96), some (.int a1), some (.int a2), some (.int (M 104 a2.toNatClampNeg)), some (.int (M 104 (a2 + (1 : Int32)).toNatClampNeg)), some (.int (M 104 (a2 + (2 : Int32)).toNatClampNeg)), some (.int (M 104 (a2 + (3 : Int32)).toNatClampNeg)), some (.int (M 104 (a2 + (4 : Int32)).toNatClampNeg)), none]) (st' := [.int ((M 98 (M 115 (M 104 (a2 + (2 : Int32)).toNatClampNeg).toNatClampNeg).toNatClampNeg) + (M 104 (a2 + (4 : Int32)).toNatClampNeg)), .int (M 115 (M 104 (a2 + (2 : Int32)).toNatClampNeg).toNatClampNeg), .ref 98]) (sh' := sh_A) (M' := M) 2 rfl ?_
                    by_cases hg30 : (M 115 (M 104 (a2 + (2 : Int32)).toNatClampNeg).toNatClampNeg) < 0 ∨ 16 ≤ (M 115 (M 104 (a2 + (2 : Int32)).toNatClampNeg).toNatClampNeg).toNatClampNeg
                    case pos => rw [if_pos hg30] at h; cases h
                    rw [if_neg hg30] at h
                    refine ev_iast rfl rfl hg30 ?_
                    refine am_ev_go (pc' := 293) (L' := [some (.ref 96), some (.int a1), some (.int a2), some (.int (M 104 a2.toNatClampNeg)), some (.int (M 104 (a2 + (1 : Int32)).toNatClampNeg)), some (.int (M 104 (a2 + (2 : Int32)).toNatClampNeg)), some (.int (M 104 (a2 + (3 : Int32)).toNatClampNeg)), some (.int (M 104 (a2 + (4 : Int32)).toNatClampNeg)), none]) (st' := []) (sh' := sh_A) (M' := (ds_w M 98 (M 115 (M 104 (a2 + (2 : Int32)).toNatClampNeg).toNatClampNeg).toNatClampNeg ((M 98 (M 115 (M 104 (a2 + (2 : Int32)).toNatClampNeg).toNatClampNeg).toNatClampNeg) + (M 104 (a2 + (4 : Int32)).toNatClampNeg)))) 1 rfl ?_
                    cases h
                    exact am_ev_ret rfl
              · rw [if_pos hc12] at h
                refine am_ev_go (pc' := 158) (L' := [some (.ref 96), some (.int a1), some (.int a2), some (.int (M 104 a2.toNatClampNeg)), some (.int (M 104 (a2 + (1 : Int32)).toNatClampNeg)), some (.int (M 104 (a2 + (2 : Int32)).toNatClampNeg)), some (.int (M 104 (a2 + (3 : Int32)).toNatClampNeg)), some (.int (M 104 (a2 + (4 : Int32)).toNatClampNeg)), none]) (st' := [.int (M 104 (a2 + (3 : Int32)).toNatClampNeg), .int (M 104 (a2 + (2 : Int32)).toNatClampNeg), .int a1, .ref 96]) (sh' := sh_A) (M' := M) 4 rfl ?_
                obtain ⟨q31, hq32, h⟩ := Option.bind_eq_some_iff.mp h
                refine am_ev_call (mj := 163) (as := [.ref 96, .int a1, .int (M 104 (a2 + (2 : Int32)).toNatClampNeg), .int (M 104 (a2 + (3 : Int32)).toNatClampNeg)]) (rest := []) (rv := some (.int q31.1)) (sh' := sh_A) (M' := q31.2) rfl (te_163 _ _ _ _ _ hq32) ?_
                show am_ev _ 161 161 [some (.ref 96), some (.int a1), some (.int a2), some (.int (M 104 a2.toNatClampNeg)), some (.int (M 104 (a2 + (1 : Int32)).toNatClampNeg)), some (.int (M 104 (a2 + (2 : Int32)).toNatClampNeg)), some (.int (M 104 (a2 + (3 : Int32)).toNatClampNeg)), some (.int (M 104 (a2 + (4 : Int32)).toNatClampNeg)), none] [.int q31.1] sh_A q31.2 _
                refine am_ev_go (pc' := 175) (L' := [some (.ref 96), some (.int a1), some (.int a2), some (.int (M 104 a2.toNatClampNeg)), some (.int (M 104 (a2 + (1 : Int32)).toNatClampNeg)), some (.int (M 104 (a2 + (2 : Int32)).toNatClampNeg)), some (.int (M 104 (a2 + (3 : Int32)).toNatClampNeg)), some (.int (M 104 (a2 + (4 : Int32)).toNatClampNeg)), some (.int q31.1)]) (st' := [.int (M 104 (a2 + (4 : Int32)).toNatClampNeg), .ref 115, .int (M 104 (a2 + (3 : Int32)).toNatClampNeg), .int (M 104 (a2 + (2 : Int32)).toNatClampNeg), .int a1, .ref 96]) (sh' := sh_A) (M' := q31.2) 8 rfl ?_
                by_cases hg33 : (M 104 (a2 + (4 : Int32)).toNatClampNeg) < 0 ∨ 6 ≤ (M 104 (a2 + (4 : Int32)).toNatClampNeg).toNatClampNeg
                case pos => rw [if_pos hg33] at h; cases h
                rw [if_neg hg33] at h
                refine ev_iald rfl rfl hg33 ?_
                obtain ⟨q34, hq35, h⟩ := Option.bind_eq_some_iff.mp h
                refine am_ev_call (mj := 164) (as := [.ref 96, .int a1, .int (M 104 (a2 + (2 : Int32)).toNatClampNeg), .int (M 104 (a2 + (3 : Int32)).toNatClampNeg), .int (q31.2 115 (M 104 (a2 + (4 : Int32)).toNatClampNeg).toNatClampNeg)]) (rest := []) (rv := none) (sh' := sh_A) (M' := q34) rfl (te_164 _ _ _ _ _ _ hq35) ?_
                show am_ev _ 161 179 [some (.ref 96), some (.int a1), some (.int a2), some (.int (M 104 a2.toNatClampNeg)), some (.int (M 104 (a2 + (1 : Int32)).toNatClampNeg)), some (.int (M 104 (a2 + (2 : Int32)).toNatClampNeg)), some (.int (M 104 (a2 + (3 : Int32)).toNatClampNeg)), some (.int (M 104 (a2 + (4 : Int32)).toNatClampNeg)), some (.int q31.1)] [] sh_A q34 _
                refine am_ev_go (pc' := 187) (L' := [some (.ref 96), some (.int a1), some (.int a2), some (.int (M 104 a2.toNatClampNeg)), some (.int (M 104 (a2 + (1 : Int32)).toNatClampNeg)), some (.int (M 104 (a2 + (2 : Int32)).toNatClampNeg)), some (.int (M 104 (a2 + (3 : Int32)).toNatClampNeg)), some (.int (M 104 (a2 + (4 : Int32)).toNatClampNeg)), some (.int q31.1)]) (st' := [.int q31.1, .int (M 104 (a2 + (1 : Int32)).toNatClampNeg), .ref 115]) (sh' := sh_A) (M' := q34) 4 rfl ?_
                by_cases hg36 : (M 104 (a2 + (1 : Int32)).toNatClampNeg) < 0 ∨ 6 ≤ (M 104 (a2 + (1 : Int32)).toNatClampNeg).toNatClampNeg
                case pos => rw [if_pos hg36] at h; cases h
                rw [if_neg hg36] at h
                refine ev_iast rfl rfl hg36 ?_
                refine am_ev_go (pc' := 293) (L' := [some (.ref 96), some (.int a1), some (.int a2), some (.int (M 104 a2.toNatClampNeg)), some (.int (M 104 (a2 + (1 : Int32)).toNatClampNeg)), some (.int (M 104 (a2 + (2 : Int32)).toNatClampNeg)), some (.int (M 104 (a2 + (3 : Int32)).toNatClampNeg)), some (.int (M 104 (a2 + (4 : Int32)).toNatClampNeg)), some (.int q31.1)]) (st' := []) (sh' := sh_A) (M' := (ds_w q34 115 (M 104 (a2 + (1 : Int32)).toNatClampNeg).toNatClampNeg q31.1)) 1 rfl ?_
                cases h
                exact am_ev_ret rfl
            · rw [if_pos hc11] at h
              refine am_ev_go (pc' := 140) (L' := [some (.ref 96), some (.int a1), some (.int a2), some (.int (M 104 a2.toNatClampNeg)), some (.int (M 104 (a2 + (1 : Int32)).toNatClampNeg)), some (.int (M 104 (a2 + (2 : Int32)).toNatClampNeg)), some (.int (M 104 (a2 + (3 : Int32)).toNatClampNeg)), some (.int (M 104 (a2 + (4 : Int32)).toNatClampNeg)), none]) (st' := [.int (M 104 (a2 + (4 : Int32)).toNatClampNeg), .ref 115, .int (M 104 (a2 + (3 : Int32)).toNatClampNeg), .int (M 104 (a2 + (2 : Int32)).toNatClampNeg), .int a1, .ref 96]) (sh' := sh_A) (M' := M) 7 rfl ?_
              by_cases hg37 : (M 104 (a2 + (4 : Int32)).toNatClampNeg) < 0 ∨ 6 ≤ (M 104 (a2 + (4 : Int32)).toNatClampNeg).toNatClampNeg
              case pos => rw [if_pos hg37] at h; cases h
              rw [if_neg hg37] at h
              refine ev_iald rfl rfl hg37 ?_
              obtain ⟨q38, hq39, h⟩ := Option.bind_eq_some_iff.mp h
              refine am_ev_call (mj := 164) (as := [.ref 96, .int a1, .int (M 104 (a2 + (2 : Int32)).toNatClampNeg), .int (M 104 (a2 + (3 : Int32)).toNatClampNeg), .int (M 115 (M 104 (a2 + (4 : Int32)).toNatClampNeg).toNatClampNeg)]) (rest := []) (rv := none) (sh' := sh_A) (M' := q38) rfl (te_164 _ _ _ _ _ _ hq39) ?_
              show am_ev _ 161 144 [some (.ref 96), some (.int a1), some (.int a2), some (.int (M 104 a2.toNatClampNeg)), some (.int (M 104 (a2 + (1 : Int32)).toNatClampNeg)), some (.int (M 104 (a2 + (2 : Int32)).toNatClampNeg)), some (.int (M 104 (a2 + (3 : Int32)).toNatClampNeg)), some (.int (M 104 (a2 + (4 : Int32)).toNatClampNeg)), none] [] sh_A q38 _
              refine am_ev_go (pc' := 293) (L' := [some (.ref 96), some (.int a1), some (.int a2), some (.int (M 104 a2.toNatClampNeg)), some (.int (M 104 (a2 + (1 : Int32)).toNatClampNeg)), some (.int (M 104 (a2 + (2 : Int32)).toNatClampNeg)), some (.int (M 104 (a2 + (3 : Int32)).toNatClampNeg)), some (.int (M 104 (a2 + (4 : Int32)).toNatClampNeg)), none]) (st' := []) (sh' := sh_A) (M' := q38) 1 rfl ?_
              cases h
              exact am_ev_ret rfl
          · rw [if_pos hc10] at h
            refine am_ev_go (pc' := 116) (L' := [some (.ref 96), some (.int a1), some (.int a2), some (.int (M 104 a2.toNatClampNeg)), some (.int (M 104 (a2 + (1 : Int32)).toNatClampNeg)), some (.int (M 104 (a2 + (2 : Int32)).toNatClampNeg)), some (.int (M 104 (a2 + (3 : Int32)).toNatClampNeg)), some (.int (M 104 (a2 + (4 : Int32)).toNatClampNeg)), none]) (st' := [.int (M 104 (a2 + (3 : Int32)).toNatClampNeg), .int (M 104 (a2 + (2 : Int32)).toNatClampNeg), .int a1, .ref 96, .int (M 104 (a2 + (1 : Int32)).toNatClampNeg), .ref 115]) (sh' := sh_A) (M' := M) 7 rfl ?_
            obtain ⟨q40, hq41, h⟩ := Option.bind_eq_some_iff.mp h
            refine am_ev_call (mj := 163) (as := [.ref 96, .int a1, .int (M 104 (a2 + (2 : Int32)).toNatClampNeg), .int (M 104 (a2 + (3 : Int32)).toNatClampNeg)]) (rest := [.int (M 104 (a2 + (1 : Int32)).toNatClampNeg), .ref 115]) (rv := some (.int q40.1)) (sh' := sh_A) (M' := q40.2) rfl (te_163 _ _ _ _ _ hq41) ?_
            show am_ev _ 161 119 [some (.ref 96), some (.int a1), some (.int a2), some (.int (M 104 a2.toNatClampNeg)), some (.int (M 104 (a2 + (1 : Int32)).toNatClampNeg)), some (.int (M 104 (a2 + (2 : Int32)).toNatClampNeg)), some (.int (M 104 (a2 + (3 : Int32)).toNatClampNeg)), some (.int (M 104 (a2 + (4 : Int32)).toNatClampNeg)), none] [.int q40.1, .int (M 104 (a2 + (1 : Int32)).toNatClampNeg), .ref 115] sh_A q40.2 _
            by_cases hg42 : (M 104 (a2 + (1 : Int32)).toNatClampNeg) < 0 ∨ 6 ≤ (M 104 (a2 + (1 : Int32)).toNatClampNeg).toNatClampNeg
            case pos => rw [if_pos hg42] at h; cases h
            rw [if_neg hg42] at h
            refine ev_iast rfl rfl hg42 ?_
            refine am_ev_go (pc' := 293) (L' := [some (.ref 96), some (.int a1), some (.int a2), some (.int (M 104 a2.toNatClampNeg)), some (.int (M 104 (a2 + (1 : Int32)).toNatClampNeg)), some (.int (M 104 (a2 + (2 : Int32)).toNatClampNeg)), some (.int (M 104 (a2 + (3 : Int32)).toNatClampNeg)), some (.int (M 104 (a2 + (4 : Int32)).toNatClampNeg)), none]) (st' := []) (sh' := sh_A) (M' := (ds_w q40.2 115 (M 104 (a2 + (1 : Int32)).toNatClampNeg).toNatClampNeg q40.1)) 1 rfl ?_
            cases h
            exact am_ev_ret rfl
        · rw [if_pos hc9] at h
          exact te_161_82 _ _ _ _ _ _ _ _ _ _ h
  · rw [if_pos hc6] at h
    refine am_ev_go (pc' := 59) (L' := [some (.ref 96), some (.int a1), some (.int a2), some (.int (M 104 a2.toNatClampNeg)), some (.int (M 104 (a2 + (1 : Int32)).toNatClampNeg)), some (.int (M 104 (a2 + (2 : Int32)).toNatClampNeg)), some (.int (M 104 (a2 + (3 : Int32)).toNatClampNeg)), some (.int (M 104 (a2 + (4 : Int32)).toNatClampNeg)), none]) (st' := [.int a1, .ref 96, .int (M 104 (a2 + (1 : Int32)).toNatClampNeg), .ref 115]) (sh' := sh_A) (M' := M) 5 rfl ?_
    obtain ⟨q43, hq44, h⟩ := Option.bind_eq_some_iff.mp h
    refine am_ev_call (mj := 162) (as := [.ref 96, .int a1]) (rest := [.int (M 104 (a2 + (1 : Int32)).toNatClampNeg), .ref 115]) (rv := some (.int q43.1)) (sh' := sh_A) (M' := q43.2) rfl (te_162 _ _ _ hq44) ?_
    show am_ev _ 161 62 [some (.ref 96), some (.int a1), some (.int a2), some (.int (M 104 a2.toNatClampNeg)), some (.int (M 104 (a2 + (1 : Int32)).toNatClampNeg)), some (.int (M 104 (a2 + (2 : Int32)).toNatClampNeg)), some (.int (M 104 (a2 + (3 : Int32)).toNatClampNeg)), some (.int (M 104 (a2 + (4 : Int32)).toNatClampNeg)), none] [.int q43.1, .int (M 104 (a2 + (1 : Int32)).toNatClampNeg), .ref 115] sh_A q43.2 _
    by_cases hg45 : (M 104 (a2 + (1 : Int32)).toNatClampNeg) < 0 ∨ 6 ≤ (M 104 (a2 + (1 : Int32)).toNatClampNeg).toNatClampNeg
    case pos => rw [if_pos hg45] at h; cases h
    rw [if_neg hg45] at h
    refine ev_iast rfl rfl hg45 ?_
    refine am_ev_go (pc' := 293) (L' := [some (.ref 96), some (.int a1), some (.int a2), some (.int (M 104 a2.toNatClampNeg)), some (.int (M 104 (a2 + (1 : Int32)).toNatClampNeg)), some (.int (M 104 (a2 + (2 : Int32)).toNatClampNeg)), some (.int (M 104 (a2 + (3 : Int32)).toNatClampNeg)), some (.int (M 104 (a2 + (4 : Int32)).toNatClampNeg)), none]) (st' := []) (sh' := sh_A) (M' := (ds_w q43.2 115 (M 104 (a2 + (1 : Int32)).toNatClampNeg).toNatClampNeg q43.1)) 1 rfl ?_
    cases h
    exact am_ev_ret rfl
def fd_156_227 (f : Nat) : Int32 → Int32 → Int32 → am_M → Option (Int32 × am_M) := Nat.rec (motive := fun _ => Int32 → Int32 → Int32 → am_M → Option (Int32 × am_M)) (fun _ _ _ _ => none) (fun _ k227 => fun x1 x4 x6 M => if x4 < 0 ∨ 6 ≤ x4.toNatClampNeg then none else if (M 103 x4.toNatClampNeg) ≤ x6 then (some ((0 : Int32), M)) else ((fd_161 x1 (((50 : Int32) * x4) + ((5 : Int32) * x6)) M).bind fun q3 => k227 x1 x4 (x6 + (1 : Int32)) q3)) f
set_option maxRecDepth 50000 in
theorem te_156_227 {L : Nat} {xs : Nat → Int32} : ∀ (f : Nat) (x1 : Int32) (x4 : Int32) (x6 : Int32) (M : am_M) (q : Int32 × am_M) (d2 d3 d5 : Option Value), fd_156_227 f x1 x4 x6 M = some q → am_ev (tb_P L xs) 156 227 [some (.ref 96), some (.int x1), d2, d3, some (.int x4), d5, some (.int x6)] [] sh_A M (some (.int q.1), sh_A, q.2) := by
  intro f
  induction f with
  | zero => intro x1 x4 x6 M q d2 d3 d5 h; cases h
  | succ f hk227 =>
    intro x1 x4 x6 M q d2 d3 d5 h
    change (if x4 < 0 ∨ 6 ≤ x4.toNatClampNeg then none else if (M 103 x4.toNatClampNeg) ≤ x6 then (some ((0 : Int32), M)) else ((fd_161 x1 (((50 : Int32) * x4) + ((5 : Int32) * x6)) M).bind fun q3 => (fd_156_227 f) x1 x4 (x6 + (1 : Int32)) q3)) = some q at h
    refine am_ev_go (pc' := 235) (L' := [some (.ref 96), some (.int x1), d2, d3, some (.int x4), d5, some (.int x6)]) (st' := [.int x4, .ref 103, .int x6]) (sh' := sh_A) (M' := M) 4 rfl ?_
    by_cases hg1 : x4 < 0 ∨ 6 ≤ x4.toNatClampNeg
    case pos => rw [if_pos hg1] at h; cases h
    rw [if_neg hg1] at h
    refine ev_iald rfl rfl hg1 ?_
    refine am_ev_go (pc' := (am_br .ge x6 (M 103 x4.toNatClampNeg) 260 239)) (L' := [some (.ref 96), some (.int x1), d2, d3, some (.int x4), d5, some (.int x6)]) (st' := []) (sh' := sh_A) (M' := M) 1 rfl ?_
    refine ev_ge (fun hc2 => ?_) (fun hc2 => ?_)
    · rw [if_pos hc2] at h
      refine am_ev_go (pc' := 261) (L' := [some (.ref 96), some (.int x1), d2, d3, some (.int x4), d5, some (.int x6)]) (st' := [.int (0 : Int32)]) (sh' := sh_A) (M' := M) 1 rfl ?_
      cases h
      exact am_ev_ret rfl
    · rw [if_neg hc2] at h
      refine am_ev_go (pc' := 251) (L' := [some (.ref 96), some (.int x1), d2, d3, some (.int x4), d5, some (.int x6)]) (st' := [.int (((50 : Int32) * x4) + ((5 : Int32) * x6)), .int x1, .ref 96]) (sh' := sh_A) (M' := M) 9 rfl ?_
      obtain ⟨q3, hq4, h⟩ := Option.bind_eq_some_iff.mp h
      refine am_ev_call (mj := 161) (as := [.ref 96, .int x1, .int (((50 : Int32) * x4) + ((5 : Int32) * x6))]) (rest := []) (rv := none) (sh' := sh_A) (M' := q3) rfl (te_161 _ _ _ _ hq4) ?_
      show am_ev _ 156 254 [some (.ref 96), some (.int x1), d2, d3, some (.int x4), d5, some (.int x6)] [] sh_A q3 _
      refine am_ev_go (pc' := 227) (L' := [some (.ref 96), some (.int x1), d2, d3, some (.int x4), d5, some (.int (x6 + (1 : Int32)))]) (st' := []) (sh' := sh_A) (M' := q3) 2 rfl ?_
      exact hk227 _ _ _ _ _ _ _ _ h
def fd_156_195 (f : Nat) : Int32 → Int32 → Int32 → Int32 → am_M → Option (Int32 × am_M) := Nat.rec (motive := fun _ => Int32 → Int32 → Int32 → Int32 → am_M → Option (Int32 × am_M)) (fun _ _ _ _ _ => none) (fun _ k195 => fun x1 x4 x5 x6 M => if (6 : Int32) ≤ x6 then (if (0 : Int32) < 0 ∨ 6 ≤ (0 : Int32).toNatClampNeg then none else fd_156_227 1000 x1 x4 (0 : Int32) (ds_w M 115 (0 : Int32).toNatClampNeg x5)) else (if x6 < 0 ∨ 6 ≤ x6.toNatClampNeg then none else k195 x1 x4 x5 (x6 + (1 : Int32)) (ds_w M 115 x6.toNatClampNeg (-1 : Int32)))) f
set_option maxRecDepth 50000 in
theorem te_156_195 {L : Nat} {xs : Nat → Int32} : ∀ (f : Nat) (x1 : Int32) (x4 : Int32) (x5 : Int32) (x6 : Int32) (M : am_M) (q : Int32 × am_M) (d2 d3 : Option Value), fd_156_195 f x1 x4 x5 x6 M = some q → am_ev (tb_P L xs) 156 195 [some (.ref 96), some (.int x1), d2, d3, some (.int x4), some (.int x5), some (.int x6)] [] sh_A M (some (.int q.1), sh_A, q.2) := by
  intro f
  induction f with
  | zero => intro x1 x4 x5 x6 M q d2 d3 h; cases h
  | succ f hk195 =>
    intro x1 x4 x5 x6 M q d2 d3 h
    change (if (6 : Int32) ≤ x6 then (if (0 : Int32) < 0 ∨ 6 ≤ (0 : Int32).toNatClampNeg then none else fd_156_227 1000 x1 x4 (0 : Int32) (ds_w M 115 (0 : Int32).toNatClampNeg x5)) else (if x6 < 0 ∨ 6 ≤ x6.toNatClampNeg then none else (fd_156_195 f) x1 x4 x5 (x6 + (1 : Int32)) (ds_w M 115 x6.toNatClampNeg (-1 : Int32)))) = some q at h
    refine am_ev_go (pc' := (am_br .ge x6 (6 : Int32) 216 202)) (L' := [some (.ref 96), some (.int x1), d2, d3, some (.int x4), some (.int x5), some (.int x6)]) (st' := []) (sh' := sh_A) (M' := M) 3 rfl ?_
    refine ev_ge (fun hc1 => ?_) (fun hc1 => ?_)
    · rw [if_pos hc1] at h
      refine am_ev_go (pc' := 223) (L' := [some (.ref 96), some (.int x1), d2, d3, some (.int x4), some (.int x5), some (.int x6)]) (st' := [.int x5, .int (0 : Int32), .ref 115]) (sh' := sh_A) (M' := M) 4 rfl ?_
      by_cases hg2 : (0 : Int32) < 0 ∨ 6 ≤ (0 : Int32).toNatClampNeg
      case pos => rw [if_pos hg2] at h; cases h
      rw [if_neg hg2] at h
      refine ev_iast rfl rfl hg2 ?_
      refine am_ev_go (pc' := 227) (L' := [some (.ref 96), some (.int x1), d2, d3, some (.int x4), some (.int x5), some (.int (0 : Int32))]) (st' := []) (sh' := sh_A) (M' := (ds_w M 115 (0 : Int32).toNatClampNeg x5)) 2 rfl ?_
      exact te_156_227 1000 _ _ _ _ _ _ _ _ h
    · rw [if_neg hc1] at h
      refine am_ev_go (pc' := 209) (L' := [some (.ref 96), some (.int x1), d2, d3, some (.int x4), some (.int x5), some (.int x6)]) (st' := [.int (-1 : Int32), .int x6, .ref 115]) (sh' := sh_A) (M' := M) 4 rfl ?_
      by_cases hg3 : x6 < 0 ∨ 6 ≤ x6.toNatClampNeg
      case pos => rw [if_pos hg3] at h; cases h
      rw [if_neg hg3] at h
      refine ev_iast rfl rfl hg3 ?_
      refine am_ev_go (pc' := 195) (L' := [some (.ref 96), some (.int x1), d2, d3, some (.int x4), some (.int x5), some (.int (x6 + (1 : Int32)))]) (st' := []) (sh' := sh_A) (M' := (ds_w M 115 x6.toNatClampNeg (-1 : Int32))) 2 rfl ?_
      exact hk195 _ _ _ _ _ _ _ _ h
def fd_156_186 (k138 : Int32 → Int32 → Int32 → Int32 → am_M → Option (Int32 × am_M)) (x1 : Int32) (x4 : Int32) (x5 : Int32) (x6 : Int32) (M : am_M) : Option (Int32 × am_M) := k138 x1 x4 x5 (x6 + (1 : Int32)) M
set_option maxRecDepth 50000 in
theorem te_156_186 {L : Nat} {xs : Nat → Int32} {k138 : Int32 → Int32 → Int32 → Int32 → am_M → Option (Int32 × am_M)} (hk138 : ∀ (x1 : Int32) (x4 : Int32) (x5 : Int32) (x6 : Int32) (M : am_M) (q : Int32 × am_M) (e2 e3 : Option Value), k138 x1 x4 x5 x6 M = some q → am_ev (tb_P L xs) 156 138 [some (.ref 96), some (.int x1), e2, e3, some (.int x4), some (.int x5), some (.int x6)] [] sh_A M (some (.int q.1), sh_A, q.2)) (x1 : Int32) (x4 : Int32) (x5 : Int32) (x6 : Int32) (M : am_M) (q : Int32 × am_M) (d2 d3 : Option Value) (h : fd_156_186 k138 x1 x4 x5 x6 M = some q) : am_ev (tb_P L xs) 156 186 [some (.ref 96), some (.int x1), d2, d3, some (.int x4), some (.int x5), some (.int x6)] [] sh_A M (some (.int q.1), sh_A, q.2) := by
  unfold fd_156_186 at h
  refine am_ev_go (pc' := 138) (L' := [some (.ref 96), some (.int x1), d2, d3, some (.int x4), some (.int x5), some (.int (x6 + (1 : Int32)))]) (st' := []) (sh' := sh_A) (M' := M) 2 rfl ?_
  exact hk138 _ _ _ _ _ _ _ _ h
def fd_156_184 (k138 : Int32 → Int32 → Int32 → Int32 → am_M → Option (Int32 × am_M)) (x1 : Int32) (x4 : Int32) (x5 : Int32) (x6 : Int32) (y1 : Int32) (y2 : Int32) (y3 : Int32) (M : am_M) : Option (Int32 × am_M) := if y1 < 0 ∨ 64 ≤ y1.toNatClampNeg then none else fd_156_186 k138 x1 x4 x5 x6 (ds_w M 100 y1.toNatClampNeg (y2 + y3))
set_option maxRecDepth 50000 in
theorem te_156_184 {L : Nat} {xs : Nat → Int32} {k138 : Int32 → Int32 → Int32 → Int32 → am_M → Option (Int32 × am_M)} (hk138 : ∀ (x1 : Int32) (x4 : Int32) (x5 : Int32) (x6 : Int32) (M : am_M) (q : Int32 × am_M) (e2 e3 : Option Value), k138 x1 x4 x5 x6 M = some q → am_ev (tb_P L xs) 156 138 [some (.ref 96), some (.int x1), e2, e3, some (.int x4), some (.int x5), some (.int x6)] [] sh_A M (some (.int q.1), sh_A, q.2)) (x1 : Int32) (x4 : Int32) (x5 : Int32) (x6 : Int32) (y1 : Int32) (y2 : Int32) (y3 : Int32) (M : am_M) (q : Int32 × am_M) (d2 d3 : Option Value) (h : fd_156_184 k138 x1 x4 x5 x6 y1 y2 y3 M = some q) : am_ev (tb_P L xs) 156 184 [some (.ref 96), some (.int x1), d2, d3, some (.int x4), some (.int x5), some (.int x6)] [.int y3, .int y2, .int y1, .ref 100] sh_A M (some (.int q.1), sh_A, q.2) := by
  unfold fd_156_184 at h
  refine am_ev_go (pc' := 185) (L' := [some (.ref 96), some (.int x1), d2, d3, some (.int x4), some (.int x5), some (.int x6)]) (st' := [.int (y2 + y3), .int y1, .ref 100]) (sh' := sh_A) (M' := M) 1 rfl ?_
  by_cases hg1 : y1 < 0 ∨ 64 ≤ y1.toNatClampNeg
  case pos => rw [if_pos hg1] at h; cases h
  rw [if_neg hg1] at h
  refine ev_iast rfl rfl hg1 ?_
  exact te_156_186 hk138 _ _ _ _ _ _ _ _ h
def fd_156_138 (f : Nat) : Int32 → Int32 → Int32 → Int32 → am_M → Option (Int32 × am_M) := Nat.rec (motive := fun _ => Int32 → Int32 → Int32 → Int32 → am_M → Option (Int32 × am_M)) (fun _ _ _ _ _ => none) (fun _ k138 => fun x1 x4 x5 x6 M => if (16 : Int32) ≤ x6 then (fd_156_195 1000 x1 x4 x5 (0 : Int32) M) else (if x6 < 0 ∨ 16 ≤ x6.toNatClampNeg then none else if (M 112 x6.toNatClampNeg) = (0 : Int32) then (fd_156_186 k138 x1 x4 x5 x6 M) else (if (((16 : Int32) * x1) + x6) < 0 ∨ 64 ≤ (((16 : Int32) * x1) + x6).toNatClampNeg then none else if x6 < 0 ∨ 16 ≤ x6.toNatClampNeg then none else if (M 97 x6.toNatClampNeg) = x1 then (fd_156_184 k138 x1 x4 x5 x6 (((16 : Int32) * x1) + x6) (M 100 (((16 : Int32) * x1) + x6).toNatClampNeg) (-1 : Int32) M) else (fd_156_184 k138 x1 x4 x5 x6 (((16 : Int32) * x1) + x6) (M 100 (((16 : Int32) * x1) + x6).toNatClampNeg) (1 : Int32) M)))) f
set_option maxRecDepth 50000 in
theorem te_156_138 {L : Nat} {xs : Nat → Int32} : ∀ (f : Nat) (x1 : Int32) (x4 : Int32) (x5 : Int32) (x6 : Int32) (M : am_M) (q : Int32 × am_M) (d2 d3 : Option Value), fd_156_138 f x1 x4 x5 x6 M = some q → am_ev (tb_P L xs) 156 138 [some (.ref 96), some (.int x1), d2, d3, some (.int x4), some (.int x5), some (.int x6)] [] sh_A M (some (.int q.1), sh_A, q.2) := by
  intro f
  induction f with
  | zero => intro x1 x4 x5 x6 M q d2 d3 h; cases h
  | succ f hk138 =>
    intro x1 x4 x5 x6 M q d2 d3 h
    change (if (16 : Int32) ≤ x6 then (fd_156_195 1000 x1 x4 x5 (0 : Int32) M) else (if x6 < 0 ∨ 16 ≤ x6.toNatClampNeg then none else if (M 112 x6.toNatClampNeg) = (0 : Int32) then (fd_156_186 (fd_156_138 f) x1 x4 x5 x6 M) else (if (((16 : Int32) * x1) + x6) < 0 ∨ 64 ≤ (((16 : Int32) * x1) + x6).toNatClampNeg then none else if x6 < 0 ∨ 16 ≤ x6.toNatClampNeg then none else if (M 97 x6.toNatClampNeg) = x1 then (fd_156_184 (fd_156_138 f) x1 x4 x5 x6 (((16 : Int32) * x1) + x6) (M 100 (((16 : Int32) * x1) + x6).toNatClampNeg) (-1 : Int32) M) else (fd_156_184 (fd_156_138 f) x1 x4 x5 x6 (((16 : Int32) * x1) + x6) (M 100 (((16 : Int32) * x1) + x6).toNatClampNeg) (1 : Int32) M)))) = some q at h
    refine am_ev_go (pc' := (am_br .ge x6 (16 : Int32) 192 145)) (L' := [some (.ref 96), some (.int x1), d2, d3, some (.int x4), some (.int x5), some (.int x6)]) (st' := []) (sh' := sh_A) (M' := M) 3 rfl ?_
    refine ev_ge (fun hc1 => ?_) (fun hc1 => ?_)
    · rw [if_pos hc1] at h
      refine am_ev_go (pc' := 195) (L' := [some (.ref 96), some (.int x1), d2, d3, some (.int x4), some (.int x5), some (.int (0 : Int32))]) (st' := []) (sh' := sh_A) (M' := M) 2 rfl ?_
      exact te_156_195 1000 _ _ _ _ _ _ _ _ h
    · rw [if_neg hc1] at h
      refine am_ev_go (pc' := 151) (L' := [some (.ref 96), some (.int x1), d2, d3, some (.int x4), some (.int x5), some (.int x6)]) (st' := [.int x6, .ref 112]) (sh' := sh_A) (M' := M) 3 rfl ?_
      by_cases hg2 : x6 < 0 ∨ 16 ≤ x6.toNatClampNeg
      case pos => rw [if_pos hg2] at h; cases h
      rw [if_neg hg2] at h
      refine ev_bald rfl rfl hg2 ?_
      refine am_ev_go (pc' := (am_br .eq (M 112 x6.toNatClampNeg) 0 186 155)) (L' := [some (.ref 96), some (.int x1), d2, d3, some (.int x4), some (.int x5), some (.int x6)]) (st' := []) (sh' := sh_A) (M' := M) 1 rfl ?_
      refine ev_eq (fun hc3 => ?_) (fun hc3 => ?_)
      · rw [if_pos hc3] at h
        exact te_156_186 hk138 _ _ _ _ _ _ _ _ h
      · rw [if_neg hc3] at h
        refine am_ev_go (pc' := 167) (L' := [some (.ref 96), some (.int x1), d2, d3, some (.int x4), some (.int x5), some (.int x6)]) (st' := [.int (((16 : Int32) * x1) + x6), .ref 100, .int (((16 : Int32) * x1) + x6), .ref 100]) (sh' := sh_A) (M' := M) 8 rfl ?_
        by_cases hg4 : (((16 : Int32) * x1) + x6) < 0 ∨ 64 ≤ (((16 : Int32) * x1) + x6).toNatClampNeg
        case pos => rw [if_pos hg4] at h; cases h
        rw [if_neg hg4] at h
        refine ev_iald rfl rfl hg4 ?_
        refine am_ev_go (pc' := 174) (L' := [some (.ref 96), some (.int x1), d2, d3, some (.int x4), some (.int x5), some (.int x6)]) (st' := [.int x6, .ref 97, .int (M 100 (((16 : Int32) * x1) + x6).toNatClampNeg), .int (((16 : Int32) * x1) + x6), .ref 100]) (sh' := sh_A) (M' := M) 3 rfl ?_
        by_cases hg5 : x6 < 0 ∨ 16 ≤ x6.toNatClampNeg
        case pos => rw [if_pos hg5] at h; cases h
        rw [if_neg hg5] at h
        refine ev_iald rfl rfl hg5 ?_
        refine am_ev_go (pc' := (am_br .ne (M 97 x6.toNatClampNeg) x1 183 179)) (L' := [some (.ref 96), some (.int x1), d2, d3, some (.int x4), some (.int x5), some (.int x6)]) (st' := [.int (M 100 (((16 : Int32) * x1) + x6).toNatClampNeg), .int (((16 : Int32) * x1) + x6), .ref 100]) (sh' := sh_A) (M' := M) 2 rfl ?_
        refine ev_ne (fun hc6 => ?_) (fun hc6 => ?_)
        · rw [if_neg hc6] at h
          refine am_ev_go (pc' := 184) (L' := [some (.ref 96), some (.int x1), d2, d3, some (.int x4), some (.int x5), some (.int x6)]) (st' := [.int (1 : Int32), .int (M 100 (((16 : Int32) * x1) + x6).toNatClampNeg), .int (((16 : Int32) * x1) + x6), .ref 100]) (sh' := sh_A) (M' := M) 1 rfl ?_
          exact te_156_184 hk138 _ _ _ _ _ _ _ _ _ _ _ h
        · rw [if_pos hc6] at h
          refine am_ev_go (pc' := 184) (L' := [some (.ref 96), some (.int x1), d2, d3, some (.int x4), some (.int x5), some (.int x6)]) (st' := [.int (-1 : Int32), .int (M 100 (((16 : Int32) * x1) + x6).toNatClampNeg), .int (((16 : Int32) * x1) + x6), .ref 100]) (sh' := sh_A) (M' := M) 2 rfl ?_
          exact te_156_184 hk138 _ _ _ _ _ _ _ _ _ _ _ h
def fd_156_108 (x1 : Int32) (x3 : Int32) (x4 : Int32) (x5 : Int32) (M : am_M) : Option (Int32 × am_M) := if x3 = (0 : Int32) then ((fd_158 M).bind fun q2 => if x4 < 0 ∨ 6 ≤ x4.toNatClampNeg then none else (fd_159 x5 (q2 102 x4.toNatClampNeg) q2).bind fun q5 => (fd_160 q5).bind fun q7 => fd_156_138 1000 x1 x4 x5 (0 : Int32) q7) else (some (x3, M))
set_option maxRecDepth 50000 in
theorem te_156_108 {L : Nat} {xs : Nat → Int32} (x1 : Int32) (x3 : Int32) (x4 : Int32) (x5 : Int32) (M : am_M) (q : Int32 × am_M) (d2 d6 : Option Value) (h : fd_156_108 x1 x3 x4 x5 M = some q) : am_ev (tb_P L xs) 156 108 [some (.ref 96), some (.int x1), d2, some (.int x3), some (.int x4), some (.int x5), d6] [] sh_A M (some (.int q.1), sh_A, q.2) := by
  unfold fd_156_108 at h
  refine am_ev_go (pc' := (am_br .eq x3 0 114 112)) (L' := [some (.ref 96), some (.int x1), d2, some (.int x3), some (.int x4), some (.int x5), d6]) (st' := []) (sh' := sh_A) (M' := M) 2 rfl ?_
  refine ev_eq (fun hc1 => ?_) (fun hc1 => ?_)
  · rw [if_pos hc1] at h
    refine am_ev_go (pc' := 115) (L' := [some (.ref 96), some (.int x1), d2, some (.int x3), some (.int x4), some (.int x5), d6]) (st' := [.ref 96]) (sh' := sh_A) (M' := M) 1 rfl ?_
    obtain ⟨q2, hq3, h⟩ := Option.bind_eq_some_iff.mp h
    refine am_ev_call (mj := 158) (as := [.ref 96]) (rest := []) (rv := none) (sh' := sh_A) (M' := q2) rfl (te_158 _ _ hq3) ?_
    show am_ev _ 156 118 [some (.ref 96), some (.int x1), d2, some (.int x3), some (.int x4), some (.int x5), d6] [] sh_A q2 _
    refine am_ev_go (pc' := 127) (L' := [some (.ref 96), some (.int x1), d2, some (.int x3), some (.int x4), some (.int x5), d6]) (st' := [.int x4, .ref 102, .int x5, .ref 96]) (sh' := sh_A) (M' := q2) 5 rfl ?_
    by_cases hg4 : x4 < 0 ∨ 6 ≤ x4.toNatClampNeg
    case pos => rw [if_pos hg4] at h; cases h
    rw [if_neg hg4] at h
    refine ev_iald rfl rfl hg4 ?_
    obtain ⟨q5, hq6, h⟩ := Option.bind_eq_some_iff.mp h
    refine am_ev_call (mj := 159) (as := [.ref 96, .int x5, .int (q2 102 x4.toNatClampNeg)]) (rest := []) (rv := none) (sh' := sh_A) (M' := q5) rfl (te_159 _ _ _ _ hq6) ?_
    show am_ev _ 156 131 [some (.ref 96), some (.int x1), d2, some (.int x3), some (.int x4), some (.int x5), d6] [] sh_A q5 _
    refine am_ev_go (pc' := 132) (L' := [some (.ref 96), some (.int x1), d2, some (.int x3), some (.int x4), some (.int x5), d6]) (st' := [.ref 96]) (sh' := sh_A) (M' := q5) 1 rfl ?_
    obtain ⟨q7, hq8, h⟩ := Option.bind_eq_some_iff.mp h
    refine am_ev_call (mj := 160) (as := [.ref 96]) (rest := []) (rv := none) (sh' := sh_A) (M' := q7) rfl (te_160 _ _ hq8) ?_
    show am_ev _ 156 135 [some (.ref 96), some (.int x1), d2, some (.int x3), some (.int x4), some (.int x5), d6] [] sh_A q7 _
    refine am_ev_go (pc' := 138) (L' := [some (.ref 96), some (.int x1), d2, some (.int x3), some (.int x4), some (.int x5), some (.int (0 : Int32))]) (st' := []) (sh' := sh_A) (M' := q7) 2 rfl ?_
    exact te_156_138 1000 _ _ _ _ _ _ _ _ h
  · rw [if_neg hc1] at h
    refine am_ev_go (pc' := 113) (L' := [some (.ref 96), some (.int x1), d2, some (.int x3), some (.int x4), some (.int x5), d6]) (st' := [.int x3]) (sh' := sh_A) (M' := M) 1 rfl ?_
    cases h
    exact am_ev_ret rfl
def fd_156_86 (x1 : Int32) (x3 : Int32) (x4 : Int32) (x5 : Int32) (M : am_M) : Option (Int32 × am_M) := if x3 = (2 : Int32) then (if (((16 : Int32) * x1) + x4) < 0 ∨ 64 ≤ (((16 : Int32) * x1) + x4).toNatClampNeg then none else if (((16 : Int32) * x1) + x4) < 0 ∨ 64 ≤ (((16 : Int32) * x1) + x4).toNatClampNeg then none else fd_156_108 x1 x3 x4 x5 (ds_w M 100 (((16 : Int32) * x1) + x4).toNatClampNeg ((M 100 (((16 : Int32) * x1) + x4).toNatClampNeg) - x5))) else (fd_156_108 x1 x3 x4 x5 M)
set_option maxRecDepth 50000 in
theorem te_156_86 {L : Nat} {xs : Nat → Int32} (x1 : Int32) (x3 : Int32) (x4 : Int32) (x5 : Int32) (M : am_M) (q : Int32 × am_M) (d2 d6 : Option Value) (h : fd_156_86 x1 x3 x4 x5 M = some q) : am_ev (tb_P L xs) 156 86 [some (.ref 96), some (.int x1), d2, some (.int x3), some (.int x4), some (.int x5), d6] [] sh_A M (some (.int q.1), sh_A, q.2) := by
  unfold fd_156_86 at h
  refine am_ev_go (pc' := (am_br .ne x3 (2 : Int32) 108 91)) (L' := [some (.ref 96), some (.int x1), d2, some (.int x3), some (.int x4), some (.int x5), d6]) (st' := []) (sh' := sh_A) (M' := M) 3 rfl ?_
  refine ev_ne (fun hc1 => ?_) (fun hc1 => ?_)
  · rw [if_neg hc1] at h
    exact te_156_108 _ _ _ _ _ _ _ _ h
  · rw [if_pos hc1] at h
    refine am_ev_go (pc' := 103) (L' := [some (.ref 96), some (.int x1), d2, some (.int x3), some (.int x4), some (.int x5), d6]) (st' := [.int (((16 : Int32) * x1) + x4), .ref 100, .int (((16 : Int32) * x1) + x4), .ref 100]) (sh' := sh_A) (M' := M) 8 rfl ?_
    by_cases hg2 : (((16 : Int32) * x1) + x4) < 0 ∨ 64 ≤ (((16 : Int32) * x1) + x4).toNatClampNeg
    case pos => rw [if_pos hg2] at h; cases h
    rw [if_neg hg2] at h
    refine ev_iald rfl rfl hg2 ?_
    refine am_ev_go (pc' := 107) (L' := [some (.ref 96), some (.int x1), d2, some (.int x3), some (.int x4), some (.int x5), d6]) (st' := [.int ((M 100 (((16 : Int32) * x1) + x4).toNatClampNeg) - x5), .int (((16 : Int32) * x1) + x4), .ref 100]) (sh' := sh_A) (M' := M) 2 rfl ?_
    by_cases hg3 : (((16 : Int32) * x1) + x4) < 0 ∨ 64 ≤ (((16 : Int32) * x1) + x4).toNatClampNeg
    case pos => rw [if_pos hg3] at h; cases h
    rw [if_neg hg3] at h
    refine ev_iast rfl rfl hg3 ?_
    exact te_156_108 _ _ _ _ _ _ _ _ h
def fd_156_26 (x1 : Int32) (x2 : Int32) (M : am_M) : Option (Int32 × am_M) := if x2 = (M 96 15) then (some ((-1 : Int32), M)) else (if x2 < 0 ∨ 20 ≤ x2.toNatClampNeg then none else if x2 < 0 ∨ 20 ≤ x2.toNatClampNeg then none else if x2 < 0 ∨ 20 ≤ x2.toNatClampNeg then none else (fd_157 x2 M).bind fun q5 => if (M 108 x2.toNatClampNeg) = (1 : Int32) then (if (((16 : Int32) * x1) + (M 110 x2.toNatClampNeg)) < 0 ∨ 64 ≤ (((16 : Int32) * x1) + (M 110 x2.toNatClampNeg)).toNatClampNeg then none else if (((16 : Int32) * x1) + (M 110 x2.toNatClampNeg)) < 0 ∨ 64 ≤ (((16 : Int32) * x1) + (M 110 x2.toNatClampNeg)).toNatClampNeg then none else fd_156_86 x1 (M 108 x2.toNatClampNeg) (M 110 x2.toNatClampNeg) (M 111 x2.toNatClampNeg) (ds_w q5 100 (((16 : Int32) * x1) + (M 110 x2.toNatClampNeg)).toNatClampNeg ((q5 100 (((16 : Int32) * x1) + (M 110 x2.toNatClampNeg)).toNatClampNeg) + (M 111 x2.toNatClampNeg)))) else (fd_156_86 x1 (M 108 x2.toNatClampNeg) (M 110 x2.toNatClampNeg) (M 111 x2.toNatClampNeg) q5))
set_option maxRecDepth 50000 in
theorem te_156_26 {L : Nat} {xs : Nat → Int32} (x1 : Int32) (x2 : Int32) (M : am_M) (q : Int32 × am_M) (d3 d4 d5 d6 : Option Value) (h : fd_156_26 x1 x2 M = some q) : am_ev (tb_P L xs) 156 26 [some (.ref 96), some (.int x1), some (.int x2), d3, d4, d5, d6] [] sh_A M (some (.int q.1), sh_A, q.2) := by
  unfold fd_156_26 at h
  refine am_ev_go (pc' := (am_br .ne x2 (M 96 15) 36 34)) (L' := [some (.ref 96), some (.int x1), some (.int x2), d3, d4, d5, d6]) (st' := []) (sh' := sh_A) (M' := M) 4 rfl ?_
  refine ev_ne (fun hc1 => ?_) (fun hc1 => ?_)
  · rw [if_neg hc1] at h
    refine am_ev_go (pc' := 41) (L' := [some (.ref 96), some (.int x1), some (.int x2), d3, d4, d5, d6]) (st' := [.int x2, .ref 108]) (sh' := sh_A) (M' := M) 3 rfl ?_
    by_cases hg2 : x2 < 0 ∨ 20 ≤ x2.toNatClampNeg
    case pos => rw [if_pos hg2] at h; cases h
    rw [if_neg hg2] at h
    refine ev_iald rfl rfl hg2 ?_
    refine am_ev_go (pc' := 48) (L' := [some (.ref 96), some (.int x1), some (.int x2), some (.int (M 108 x2.toNatClampNeg)), d4, d5, d6]) (st' := [.int x2, .ref 110]) (sh' := sh_A) (M' := M) 4 rfl ?_
    by_cases hg3 : x2 < 0 ∨ 20 ≤ x2.toNatClampNeg
    case pos => rw [if_pos hg3] at h; cases h
    rw [if_neg hg3] at h
    refine ev_iald rfl rfl hg3 ?_
    refine am_ev_go (pc' := 56) (L' := [some (.ref 96), some (.int x1), some (.int x2), some (.int (M 108 x2.toNatClampNeg)), some (.int (M 110 x2.toNatClampNeg)), d5, d6]) (st' := [.int x2, .ref 111]) (sh' := sh_A) (M' := M) 4 rfl ?_
    by_cases hg4 : x2 < 0 ∨ 20 ≤ x2.toNatClampNeg
    case pos => rw [if_pos hg4] at h; cases h
    rw [if_neg hg4] at h
    refine ev_iald rfl rfl hg4 ?_
    refine am_ev_go (pc' := 61) (L' := [some (.ref 96), some (.int x1), some (.int x2), some (.int (M 108 x2.toNatClampNeg)), some (.int (M 110 x2.toNatClampNeg)), some (.int (M 111 x2.toNatClampNeg)), d6]) (st' := [.int x2, .ref 96]) (sh' := sh_A) (M' := M) 3 rfl ?_
    obtain ⟨q5, hq6, h⟩ := Option.bind_eq_some_iff.mp h
    refine am_ev_call (mj := 157) (as := [.ref 96, .int x2]) (rest := []) (rv := none) (sh' := sh_A) (M' := q5) rfl (te_157 _ _ _ hq6) ?_
    show am_ev _ 156 64 [some (.ref 96), some (.int x1), some (.int x2), some (.int (M 108 x2.toNatClampNeg)), some (.int (M 110 x2.toNatClampNeg)), some (.int (M 111 x2.toNatClampNeg)), d6] [] sh_A q5 _
    refine am_ev_go (pc' := (am_br .ne (M 108 x2.toNatClampNeg) (1 : Int32) 86 69)) (L' := [some (.ref 96), some (.int x1), some (.int x2), some (.int (M 108 x2.toNatClampNeg)), some (.int (M 110 x2.toNatClampNeg)), some (.int (M 111 x2.toNatClampNeg)), d6]) (st' := []) (sh' := sh_A) (M' := q5) 3 rfl ?_
    refine ev_ne (fun hc7 => ?_) (fun hc7 => ?_)
    · rw [if_neg hc7] at h
      exact te_156_86 _ _ _ _ _ _ _ _ h
    · rw [if_pos hc7] at h
      refine am_ev_go (pc' := 81) (L' := [some (.ref 96), some (.int x1), some (.int x2), some (.int (M 108 x2.toNatClampNeg)), some (.int (M 110 x2.toNatClampNeg)), some (.int (M 111 x2.toNatClampNeg)), d6]) (st' := [.int (((16 : Int32) * x1) + (M 110 x2.toNatClampNeg)), .ref 100, .int (((16 : Int32) * x1) + (M 110 x2.toNatClampNeg)), .ref 100]) (sh' := sh_A) (M' := q5) 8 rfl ?_
      by_cases hg8 : (((16 : Int32) * x1) + (M 110 x2.toNatClampNeg)) < 0 ∨ 64 ≤ (((16 : Int32) * x1) + (M 110 x2.toNatClampNeg)).toNatClampNeg
      case pos => rw [if_pos hg8] at h; cases h
      rw [if_neg hg8] at h
      refine ev_iald rfl rfl hg8 ?_
      refine am_ev_go (pc' := 85) (L' := [some (.ref 96), some (.int x1), some (.int x2), some (.int (M 108 x2.toNatClampNeg)), some (.int (M 110 x2.toNatClampNeg)), some (.int (M 111 x2.toNatClampNeg)), d6]) (st' := [.int ((q5 100 (((16 : Int32) * x1) + (M 110 x2.toNatClampNeg)).toNatClampNeg) + (M 111 x2.toNatClampNeg)), .int (((16 : Int32) * x1) + (M 110 x2.toNatClampNeg)), .ref 100]) (sh' := sh_A) (M' := q5) 2 rfl ?_
      by_cases hg9 : (((16 : Int32) * x1) + (M 110 x2.toNatClampNeg)) < 0 ∨ 64 ≤ (((16 : Int32) * x1) + (M 110 x2.toNatClampNeg)).toNatClampNeg
      case pos => rw [if_pos hg9] at h; cases h
      rw [if_neg hg9] at h
      refine ev_iast rfl rfl hg9 ?_
      exact te_156_86 _ _ _ _ _ _ _ _ h
  · rw [if_pos hc1] at h
    refine am_ev_go (pc' := 35) (L' := [some (.ref 96), some (.int x1), some (.int x2), d3, d4, d5, d6]) (st' := [.int (-1 : Int32)]) (sh' := sh_A) (M' := M) 1 rfl ?_
    cases h
    exact am_ev_ret rfl
def fd_156_2 (f : Nat) : Int32 → Int32 → am_M → Option (Int32 × am_M) := Nat.rec (motive := fun _ => Int32 → Int32 → am_M → Option (Int32 × am_M)) (fun _ _ _ => none) (fun _ k2 => fun x1 x2 M => if (M 96 15) ≤ x2 then (fd_156_26 x1 x2 M) else (if x2 < 0 ∨ 20 ≤ x2.toNatClampNeg then none else if (M 109 x2.toNatClampNeg) = x1 then (fd_156_26 x1 x2 M) else (k2 x1 (x2 + (1 : Int32)) M))) f
set_option maxRecDepth 50000 in
theorem te_156_2 {L : Nat} {xs : Nat → Int32} : ∀ (f : Nat) (x1 : Int32) (x2 : Int32) (M : am_M) (q : Int32 × am_M) (d3 d4 d5 d6 : Option Value), fd_156_2 f x1 x2 M = some q → am_ev (tb_P L xs) 156 2 [some (.ref 96), some (.int x1), some (.int x2), d3, d4, d5, d6] [] sh_A M (some (.int q.1), sh_A, q.2) := by
  intro f
  induction f with
  | zero => intro x1 x2 M q d3 d4 d5 d6 h; cases h
  | succ f hk2 =>
    intro x1 x2 M q d3 d4 d5 d6 h
    change (if (M 96 15) ≤ x2 then (fd_156_26 x1 x2 M) else (if x2 < 0 ∨ 20 ≤ x2.toNatClampNeg then none else if (M 109 x2.toNatClampNeg) = x1 then (fd_156_26 x1 x2 M) else ((fd_156_2 f) x1 (x2 + (1 : Int32)) M))) = some q at h
    refine am_ev_go (pc' := (am_br .ge x2 (M 96 15) 26 10)) (L' := [some (.ref 96), some (.int x1), some (.int x2), d3, d4, d5, d6]) (st' := []) (sh' := sh_A) (M' := M) 4 rfl ?_
    refine ev_ge (fun hc1 => ?_) (fun hc1 => ?_)
    · rw [if_pos hc1] at h
      exact te_156_26 _ _ _ _ _ _ _ _ h
    · rw [if_neg hc1] at h
      refine am_ev_go (pc' := 15) (L' := [some (.ref 96), some (.int x1), some (.int x2), d3, d4, d5, d6]) (st' := [.int x2, .ref 109]) (sh' := sh_A) (M' := M) 3 rfl ?_
      by_cases hg2 : x2 < 0 ∨ 20 ≤ x2.toNatClampNeg
      case pos => rw [if_pos hg2] at h; cases h
      rw [if_neg hg2] at h
      refine ev_iald rfl rfl hg2 ?_
      refine am_ev_go (pc' := (am_br .eq (M 109 x2.toNatClampNeg) x1 26 20)) (L' := [some (.ref 96), some (.int x1), some (.int x2), d3, d4, d5, d6]) (st' := []) (sh' := sh_A) (M' := M) 2 rfl ?_
      refine ev_eq (fun hc3 => ?_) (fun hc3 => ?_)
      · rw [if_pos hc3] at h
        exact te_156_26 _ _ _ _ _ _ _ _ h
      · rw [if_neg hc3] at h
        refine am_ev_go (pc' := 2) (L' := [some (.ref 96), some (.int x1), some (.int (x2 + (1 : Int32))), d3, d4, d5, d6]) (st' := []) (sh' := sh_A) (M' := M) 2 rfl ?_
        exact hk2 _ _ _ _ _ _ _ _ h
/-- CountedActorsModel.step(I)I -/
def fd_156 (a1 : Int32) (M : am_M) : Option (Int32 × am_M) := fd_156_2 1000 a1 (0 : Int32) M
set_option maxRecDepth 50000 in
theorem te_156 {L : Nat} {xs : Nat → Int32} (a1 : Int32) (M : am_M) (q : Int32 × am_M) (h : fd_156 a1 M = some q) : am_ev (tb_P L xs) 156 0 [some (.ref 96), some (.int a1), none, none, none, none, none] [] sh_A M (some (.int q.1), sh_A, q.2) := by
  unfold fd_156 at h
  refine am_ev_go (pc' := 2) (L' := [some (.ref 96), some (.int a1), some (.int (0 : Int32)), none, none, none, none]) (st' := []) (sh' := sh_A) (M' := M) 2 rfl ?_
  exact te_156_2 1000 _ _ _ _ _ _ _ _ h
