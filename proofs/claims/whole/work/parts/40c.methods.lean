def fd_87_2 (f : Nat) : Int32 → Int32 → am_M → Option (Int32 × am_M) := Nat.rec (motive := fun _ => Int32 → Int32 → am_M → Option (Int32 × am_M)) (fun _ _ _ => none) (fun _ k2 => fun x1 x2 M => if (16 : Int32) ≤ x2 then (some ((-1 : Int32), M)) else (if x2 < 0 ∨ 16 ≤ x2.toNatClampNeg then none else if (M 80 x2.toNatClampNeg) = (-1 : Int32) then (if x2 < 0 ∨ 16 ≤ x2.toNatClampNeg then none else (fd_88 x2 (ds_w M 80 x2.toNatClampNeg x1)).bind fun q5 => some (x2, q5)) else (k2 x1 (x2 + (1 : Int32)) M))) f
theorem te_87_2 {L : Nat} {xs : Nat → Int32} : ∀ (f : Nat) (x1 : Int32) (x2 : Int32) (M : am_M) (q : Int32 × am_M), fd_87_2 f x1 x2 M = some q → am_ev (tb_P L xs) 87 2 [some (.ref 79), some (.int x1), some (.int x2)] [] sh_A M (some (.int q.1), sh_A, q.2) := by
  intro f
  induction f with
  | zero => intro x1 x2 M q h; cases h
  | succ f hk2 =>
    intro x1 x2 M q h
    change (if (16 : Int32) ≤ x2 then (some ((-1 : Int32), M)) else (if x2 < 0 ∨ 16 ≤ x2.toNatClampNeg then none else if (M 80 x2.toNatClampNeg) = (-1 : Int32) then (if x2 < 0 ∨ 16 ≤ x2.toNatClampNeg then none else (fd_88 x2 (ds_w M 80 x2.toNatClampNeg x1)).bind fun q5 => some (x2, q5)) else ((fd_87_2 f) x1 (x2 + (1 : Int32)) M))) = some q at h
    refine am_ev_go (pc' := (am_br .ge x2 (16 : Int32) 38 8)) (L' := [some (.ref 79), some (.int x1), some (.int x2)]) (st' := []) (sh' := sh_A) (M' := M) 3 rfl ?_
    refine ev_ge (fun hc1 => ?_) (fun hc1 => ?_)
    · rw [if_pos hc1] at h
      refine am_ev_go (pc' := 39) (L' := [some (.ref 79), some (.int x1), some (.int x2)]) (st' := [.int (-1 : Int32)]) (sh' := sh_A) (M' := M) 1 rfl ?_
      cases h
      exact am_ev_ret rfl
    · rw [if_neg hc1] at h
      refine am_ev_go (pc' := 13) (L' := [some (.ref 79), some (.int x1), some (.int x2)]) (st' := [.int x2, .ref 80]) (sh' := sh_A) (M' := M) 3 rfl ?_
      by_cases hg2 : x2 < 0 ∨ 16 ≤ x2.toNatClampNeg
      case pos => rw [if_pos hg2] at h; cases h
      rw [if_neg hg2] at h
      refine ev_iald rfl rfl hg2 ?_
      refine am_ev_go (pc' := (am_br .ne (M 80 x2.toNatClampNeg) (-1 : Int32) 32 18)) (L' := [some (.ref 79), some (.int x1), some (.int x2)]) (st' := []) (sh' := sh_A) (M' := M) 2 rfl ?_
      refine ev_ne (fun hc3 => ?_) (fun hc3 => ?_)
      · rw [if_neg hc3] at h
        refine am_ev_go (pc' := 2) (L' := [some (.ref 79), some (.int x1), some (.int (x2 + (1 : Int32)))]) (st' := []) (sh' := sh_A) (M' := M) 2 rfl ?_
        exact hk2 _ _ _ _ h
      · rw [if_pos hc3] at h
        refine am_ev_go (pc' := 24) (L' := [some (.ref 79), some (.int x1), some (.int x2)]) (st' := [.int x1, .int x2, .ref 80]) (sh' := sh_A) (M' := M) 4 rfl ?_
        by_cases hg4 : x2 < 0 ∨ 16 ≤ x2.toNatClampNeg
        case pos => rw [if_pos hg4] at h; cases h
        rw [if_neg hg4] at h
        refine ev_iast rfl rfl hg4 ?_
        refine am_ev_go (pc' := 27) (L' := [some (.ref 79), some (.int x1), some (.int x2)]) (st' := [.int x2, .ref 79]) (sh' := sh_A) (M' := (ds_w M 80 x2.toNatClampNeg x1)) 2 rfl ?_
        obtain ⟨q5, hq6, h⟩ := Option.bind_eq_some_iff.mp h
        refine am_ev_call (mj := 88) (as := [.ref 79, .int x2]) (rest := []) (rv := none) (sh' := sh_A) (M' := q5) rfl (te_88 _ _ _ hq6) ?_
        show am_ev _ 87 30 [some (.ref 79), some (.int x1), some (.int x2)] [] sh_A q5 _
        refine am_ev_go (pc' := 31) (L' := [some (.ref 79), some (.int x1), some (.int x2)]) (st' := [.int x2]) (sh' := sh_A) (M' := q5) 1 rfl ?_
        cases h
        exact am_ev_ret rfl
/-- CountedActors$Heap.make(I)I -/
def fd_87 (a1 : Int32) (M : am_M) : Option (Int32 × am_M) := fd_87_2 1000 a1 (0 : Int32) M
theorem te_87 {L : Nat} {xs : Nat → Int32} (a1 : Int32) (M : am_M) (q : Int32 × am_M) (h : fd_87 a1 M = some q) : am_ev (tb_P L xs) 87 0 [some (.ref 79), some (.int a1), none] [] sh_A M (some (.int q.1), sh_A, q.2) := by
  unfold fd_87 at h
  refine am_ev_go (pc' := 2) (L' := [some (.ref 79), some (.int a1), some (.int (0 : Int32))]) (st' := []) (sh' := sh_A) (M' := M) 2 rfl ?_
  exact te_87_2 1000 _ _ _ _ h
/-- CountedActors$Machine.makeObject(I)I -/
def fd_86 (a1 : Int32) (M : am_M) : Option (Int32 × am_M) := (fd_87 a1 M).bind fun q1 => if q1.1 = (-1 : Int32) then (some (q1.1, (ds_w q1.2 94 7 ((q1.2 94 7) + (1 : Int32))))) else (some (q1.1, q1.2))
theorem te_86 {L : Nat} {xs : Nat → Int32} (a1 : Int32) (M : am_M) (q : Int32 × am_M) (h : fd_86 a1 M = some q) : am_ev (tb_P L xs) 86 0 [some (.ref 94), some (.int a1), none] [] sh_A M (some (.int q.1), sh_A, q.2) := by
  unfold fd_86 at h
  refine am_ev_go (pc' := 5) (L' := [some (.ref 94), some (.int a1), none]) (st' := [.int a1, .ref 79]) (sh' := sh_A) (M' := M) 3 rfl ?_
  obtain ⟨q1, hq2, h⟩ := Option.bind_eq_some_iff.mp h
  refine am_ev_call (mj := 87) (as := [.ref 79, .int a1]) (rest := []) (rv := some (.int q1.1)) (sh' := sh_A) (M' := q1.2) rfl (te_87 _ _ _ hq2) ?_
  show am_ev _ 86 8 [some (.ref 94), some (.int a1), none] [.int q1.1] sh_A q1.2 _
  refine am_ev_go (pc' := (am_br .ne q1.1 (-1 : Int32) 24 14)) (L' := [some (.ref 94), some (.int a1), some (.int q1.1)]) (st' := []) (sh' := sh_A) (M' := q1.2) 4 rfl ?_
  refine ev_ne (fun hc3 => ?_) (fun hc3 => ?_)
  · rw [if_neg hc3] at h
    refine am_ev_go (pc' := 25) (L' := [some (.ref 94), some (.int a1), some (.int q1.1)]) (st' := [.int q1.1]) (sh' := sh_A) (M' := q1.2) 1 rfl ?_
    cases h
    exact am_ev_ret rfl
  · rw [if_pos hc3] at h
    refine am_ev_go (pc' := 25) (L' := [some (.ref 94), some (.int a1), some (.int q1.1)]) (st' := [.int q1.1]) (sh' := sh_A) (M' := (ds_w q1.2 94 7 ((q1.2 94 7) + (1 : Int32)))) 7 rfl ?_
    cases h
    exact am_ev_ret rfl
/-- CountedActors$Heap.holderOfActor(I)I -/
def fd_91 (a0 : Int32) (M : am_M) : Option (Int32 × am_M) := some (((16 : Int32) + a0), M)
theorem te_91 {L : Nat} {xs : Nat → Int32} (a0 : Int32) (M : am_M) (q : Int32 × am_M) (h : fd_91 a0 M = some q) : am_ev (tb_P L xs) 91 0 [some (.int a0)] [] sh_A M (some (.int q.1), sh_A, q.2) := by
  unfold fd_91 at h
  refine am_ev_go (pc' := 4) (L' := [some (.int a0)]) (st' := [.int ((16 : Int32) + a0)]) (sh' := sh_A) (M' := M) 3 rfl ?_
  cases h
  exact am_ev_ret rfl
/-- CountedActors$Machine.holderOf(II)I -/
def fd_90 (a1 : Int32) (a2 : Int32) (M : am_M) : Option (Int32 × am_M) := if a2 = (6 : Int32) then ((fd_91 a1 M).bind fun q3 => some (q3.1, q3.2)) else (if a2 < 0 ∨ 6 ≤ a2.toNatClampNeg then none else some ((M 95 a2.toNatClampNeg), M))
theorem te_90 {L : Nat} {xs : Nat → Int32} (a1 : Int32) (a2 : Int32) (M : am_M) (q : Int32 × am_M) (h : fd_90 a1 a2 M = some q) : am_ev (tb_P L xs) 90 0 [some (.ref 94), some (.int a1), some (.int a2)] [] sh_A M (some (.int q.1), sh_A, q.2) := by
  unfold fd_90 at h
  refine am_ev_go (pc' := (am_br .ne a2 (6 : Int32) 13 6)) (L' := [some (.ref 94), some (.int a1), some (.int a2)]) (st' := []) (sh' := sh_A) (M' := M) 3 rfl ?_
  refine ev_ne (fun hc1 => ?_) (fun hc1 => ?_)
  · rw [if_neg hc1] at h
    refine am_ev_go (pc' := 18) (L' := [some (.ref 94), some (.int a1), some (.int a2)]) (st' := [.int a2, .ref 95]) (sh' := sh_A) (M' := M) 3 rfl ?_
    by_cases hg2 : a2 < 0 ∨ 6 ≤ a2.toNatClampNeg
    case pos => rw [if_pos hg2] at h; cases h
    rw [if_neg hg2] at h
    refine ev_iald rfl rfl hg2 ?_
    cases h
    exact am_ev_ret rfl
  · rw [if_pos hc1] at h
    refine am_ev_go (pc' := 7) (L' := [some (.ref 94), some (.int a1), some (.int a2)]) (st' := [.int a1]) (sh' := sh_A) (M' := M) 1 rfl ?_
    obtain ⟨q3, hq4, h⟩ := Option.bind_eq_some_iff.mp h
    refine am_ev_call (mj := 91) (as := [.int a1]) (rest := []) (rv := some (.int q3.1)) (sh' := sh_A) (M' := q3.2) rfl (te_91 _ _ _ hq4) ?_
    show am_ev _ 90 10 [some (.ref 94), some (.int a1), some (.int a2)] [.int q3.1] sh_A q3.2 _
    refine am_ev_go (pc' := 19) (L' := [some (.ref 94), some (.int a1), some (.int a2)]) (st' := [.int q3.1]) (sh' := sh_A) (M' := q3.2) 1 rfl ?_
    cases h
    exact am_ev_ret rfl
/-- CountedActors$Machine.read(II)I -/
def fd_92 (a1 : Int32) (a2 : Int32) (M : am_M) : Option (Int32 × am_M) := if a1 = (-1 : Int32) then (some ((-1 : Int32), M)) else ((fd_79 a1 a2 M).bind fun q2 => some (q2.1, q2.2))
theorem te_92 {L : Nat} {xs : Nat → Int32} (a1 : Int32) (a2 : Int32) (M : am_M) (q : Int32 × am_M) (h : fd_92 a1 a2 M = some q) : am_ev (tb_P L xs) 92 0 [some (.ref 94), some (.int a1), some (.int a2)] [] sh_A M (some (.int q.1), sh_A, q.2) := by
  unfold fd_92 at h
  refine am_ev_go (pc' := (am_br .ne a1 (-1 : Int32) 9 5)) (L' := [some (.ref 94), some (.int a1), some (.int a2)]) (st' := []) (sh' := sh_A) (M' := M) 3 rfl ?_
  refine ev_ne (fun hc1 => ?_) (fun hc1 => ?_)
  · rw [if_neg hc1] at h
    refine am_ev_go (pc' := 15) (L' := [some (.ref 94), some (.int a1), some (.int a2)]) (st' := [.int a2, .int a1, .ref 79]) (sh' := sh_A) (M' := M) 4 rfl ?_
    obtain ⟨q2, hq3, h⟩ := Option.bind_eq_some_iff.mp h
    refine am_ev_call (mj := 79) (as := [.ref 79, .int a1, .int a2]) (rest := []) (rv := some (.int q2.1)) (sh' := sh_A) (M' := q2.2) rfl (te_79 _ _ _ _ hq3) ?_
    show am_ev _ 92 18 [some (.ref 94), some (.int a1), some (.int a2)] [.int q2.1] sh_A q2.2 _
    cases h
    exact am_ev_ret rfl
  · rw [if_pos hc1] at h
    refine am_ev_go (pc' := 18) (L' := [some (.ref 94), some (.int a1), some (.int a2)]) (st' := [.int (-1 : Int32)]) (sh' := sh_A) (M' := M) 2 rfl ?_
    cases h
    exact am_ev_ret rfl
/-- CountedActors$Machine.replace(III)I -/
def fd_93 (a1 : Int32) (a2 : Int32) (a3 : Int32) (M : am_M) : Option (Int32 × am_M) := if a1 = (-1 : Int32) then (some ((-1 : Int32), M)) else ((fd_79 a1 a2 M).bind fun q2 => (fd_89 a1 a2 a3 q2.2).bind fun q4 => some (q2.1, q4))
theorem te_93 {L : Nat} {xs : Nat → Int32} (a1 : Int32) (a2 : Int32) (a3 : Int32) (M : am_M) (q : Int32 × am_M) (h : fd_93 a1 a2 a3 M = some q) : am_ev (tb_P L xs) 93 0 [some (.ref 94), some (.int a1), some (.int a2), some (.int a3), none] [] sh_A M (some (.int q.1), sh_A, q.2) := by
  unfold fd_93 at h
  refine am_ev_go (pc' := (am_br .ne a1 (-1 : Int32) 7 5)) (L' := [some (.ref 94), some (.int a1), some (.int a2), some (.int a3), none]) (st' := []) (sh' := sh_A) (M' := M) 3 rfl ?_
  refine ev_ne (fun hc1 => ?_) (fun hc1 => ?_)
  · rw [if_neg hc1] at h
    refine am_ev_go (pc' := 13) (L' := [some (.ref 94), some (.int a1), some (.int a2), some (.int a3), none]) (st' := [.int a2, .int a1, .ref 79]) (sh' := sh_A) (M' := M) 4 rfl ?_
    obtain ⟨q2, hq3, h⟩ := Option.bind_eq_some_iff.mp h
    refine am_ev_call (mj := 79) (as := [.ref 79, .int a1, .int a2]) (rest := []) (rv := some (.int q2.1)) (sh' := sh_A) (M' := q2.2) rfl (te_79 _ _ _ _ hq3) ?_
    show am_ev _ 93 16 [some (.ref 94), some (.int a1), some (.int a2), some (.int a3), none] [.int q2.1] sh_A q2.2 _
    refine am_ev_go (pc' := 25) (L' := [some (.ref 94), some (.int a1), some (.int a2), some (.int a3), some (.int q2.1)]) (st' := [.int a3, .int a2, .int a1, .ref 79]) (sh' := sh_A) (M' := q2.2) 6 rfl ?_
    obtain ⟨q4, hq5, h⟩ := Option.bind_eq_some_iff.mp h
    refine am_ev_call (mj := 89) (as := [.ref 79, .int a1, .int a2, .int a3]) (rest := []) (rv := none) (sh' := sh_A) (M' := q4) rfl (te_89 _ _ _ _ _ hq5) ?_
    show am_ev _ 93 28 [some (.ref 94), some (.int a1), some (.int a2), some (.int a3), some (.int q2.1)] [] sh_A q4 _
    refine am_ev_go (pc' := 30) (L' := [some (.ref 94), some (.int a1), some (.int a2), some (.int a3), some (.int q2.1)]) (st' := [.int q2.1]) (sh' := sh_A) (M' := q4) 1 rfl ?_
    cases h
    exact am_ev_ret rfl
  · rw [if_pos hc1] at h
    refine am_ev_go (pc' := 6) (L' := [some (.ref 94), some (.int a1), some (.int a2), some (.int a3), none]) (st' := [.int (-1 : Int32)]) (sh' := sh_A) (M' := M) 1 rfl ?_
    cases h
    exact am_ev_ret rfl
/-- CountedActors$Heap.growCell(II)V -/
def fd_95 (a1 : Int32) (a2 : Int32) (M : am_M) : Option (am_M) := if a1 < 0 ∨ 16 ≤ a1.toNatClampNeg then none else if a1 < 0 ∨ 16 ≤ a1.toNatClampNeg then none else some (ds_w M 81 a1.toNatClampNeg ((M 81 a1.toNatClampNeg) + a2))
theorem te_95 {L : Nat} {xs : Nat → Int32} (a1 : Int32) (a2 : Int32) (M : am_M) (q : am_M) (h : fd_95 a1 a2 M = some q) : am_ev (tb_P L xs) 95 0 [some (.ref 79), some (.int a1), some (.int a2)] [] sh_A M (none, sh_A, q) := by
  unfold fd_95 at h
  refine am_ev_go (pc' := 6) (L' := [some (.ref 79), some (.int a1), some (.int a2)]) (st' := [.int a1, .ref 81, .int a1, .ref 81]) (sh' := sh_A) (M' := M) 4 rfl ?_
  by_cases hg1 : a1 < 0 ∨ 16 ≤ a1.toNatClampNeg
  case pos => rw [if_pos hg1] at h; cases h
  rw [if_neg hg1] at h
  refine ev_iald rfl rfl hg1 ?_
  refine am_ev_go (pc' := 9) (L' := [some (.ref 79), some (.int a1), some (.int a2)]) (st' := [.int ((M 81 a1.toNatClampNeg) + a2), .int a1, .ref 81]) (sh' := sh_A) (M' := M) 2 rfl ?_
  by_cases hg2 : a1 < 0 ∨ 16 ≤ a1.toNatClampNeg
  case pos => rw [if_pos hg2] at h; cases h
  rw [if_neg hg2] at h
  refine ev_iast rfl rfl hg2 ?_
  cases h
  exact am_ev_ret rfl
/-- CountedActors$Machine.growCell(II)V -/
def fd_94 (a1 : Int32) (a2 : Int32) (M : am_M) : Option (am_M) := if a1 = (-1 : Int32) then (some M) else ((fd_95 a1 a2 M).bind fun q2 => some q2)
theorem te_94 {L : Nat} {xs : Nat → Int32} (a1 : Int32) (a2 : Int32) (M : am_M) (q : am_M) (h : fd_94 a1 a2 M = some q) : am_ev (tb_P L xs) 94 0 [some (.ref 94), some (.int a1), some (.int a2)] [] sh_A M (none, sh_A, q) := by
  unfold fd_94 at h
  refine am_ev_go (pc' := (am_br .eq a1 (-1 : Int32) 14 5)) (L' := [some (.ref 94), some (.int a1), some (.int a2)]) (st' := []) (sh' := sh_A) (M' := M) 3 rfl ?_
  refine ev_eq (fun hc1 => ?_) (fun hc1 => ?_)
  · rw [if_pos hc1] at h
    cases h
    exact am_ev_ret rfl
  · rw [if_neg hc1] at h
    refine am_ev_go (pc' := 11) (L' := [some (.ref 94), some (.int a1), some (.int a2)]) (st' := [.int a2, .int a1, .ref 79]) (sh' := sh_A) (M' := M) 4 rfl ?_
    obtain ⟨q2, hq3, h⟩ := Option.bind_eq_some_iff.mp h
    refine am_ev_call (mj := 95) (as := [.ref 79, .int a1, .int a2]) (rest := []) (rv := none) (sh' := sh_A) (M' := q2) rfl (te_95 _ _ _ _ hq3) ?_
    show am_ev _ 94 14 [some (.ref 94), some (.int a1), some (.int a2)] [] sh_A q2 _
    cases h
    exact am_ev_ret rfl
/-- CountedActors$Heap.cellOf(I)I -/
def fd_97 (a1 : Int32) (M : am_M) : Option (Int32 × am_M) := if a1 < 0 ∨ 16 ≤ a1.toNatClampNeg then none else some ((M 81 a1.toNatClampNeg), M)
theorem te_97 {L : Nat} {xs : Nat → Int32} (a1 : Int32) (M : am_M) (q : Int32 × am_M) (h : fd_97 a1 M = some q) : am_ev (tb_P L xs) 97 0 [some (.ref 79), some (.int a1)] [] sh_A M (some (.int q.1), sh_A, q.2) := by
  unfold fd_97 at h
  refine am_ev_go (pc' := 5) (L' := [some (.ref 79), some (.int a1)]) (st' := [.int a1, .ref 81]) (sh' := sh_A) (M' := M) 3 rfl ?_
  by_cases hg1 : a1 < 0 ∨ 16 ≤ a1.toNatClampNeg
  case pos => rw [if_pos hg1] at h; cases h
  rw [if_neg hg1] at h
  refine ev_iald rfl rfl hg1 ?_
  cases h
  exact am_ev_ret rfl
/-- CountedActors$Display.put(I)V -/
def fd_98 (a1 : Int32) (M : am_M) : Option (am_M) := if (M 92 1) < 0 then none else if ((M 92 1) - (M 92 1) / 16 * 16) < 0 ∨ 16 ≤ ((M 92 1) - (M 92 1) / 16 * 16).toNatClampNeg then none else some (ds_w (ds_w M 93 ((M 92 1) - (M 92 1) / 16 * 16).toNatClampNeg a1) 92 1 ((M 92 1) + (1 : Int32)))
theorem te_98 {L : Nat} {xs : Nat → Int32} (a1 : Int32) (M : am_M) (q : am_M) (h : fd_98 a1 M = some q) : am_ev (tb_P L xs) 98 0 [some (.ref 92), some (.int a1)] [] sh_A M (none, sh_A, q) := by
  unfold fd_98 at h
  refine am_ev_go (pc' := 10) (L' := [some (.ref 92), some (.int a1)]) (st' := [.int (16 : Int32), .int (M 92 1), .ref 93]) (sh' := sh_A) (M' := M) 5 rfl ?_
  by_cases hg1 : (M 92 1) < 0
  case pos => rw [if_pos hg1] at h; cases h
  rw [if_neg hg1] at h
  refine ev_fmod rfl rfl hg1 (by decide) ?_
  refine am_ev_go (pc' := 14) (L' := [some (.ref 92), some (.int a1)]) (st' := [.int a1, .int ((M 92 1) - (M 92 1) / 16 * 16), .ref 93]) (sh' := sh_A) (M' := M) 1 rfl ?_
  by_cases hg2 : ((M 92 1) - (M 92 1) / 16 * 16) < 0 ∨ 16 ≤ ((M 92 1) - (M 92 1) / 16 * 16).toNatClampNeg
  case pos => rw [if_pos hg2] at h; cases h
  rw [if_neg hg2] at h
  refine ev_iast rfl rfl hg2 ?_
  refine am_ev_go (pc' := 25) (L' := [some (.ref 92), some (.int a1)]) (st' := []) (sh' := sh_A) (M' := (ds_w (ds_w M 93 ((M 92 1) - (M 92 1) / 16 * 16).toNatClampNeg a1) 92 1 ((M 92 1) + (1 : Int32)))) 6 rfl ?_
  cases h
  exact am_ev_ret rfl
/-- CountedActors$Machine.showCell(I)V -/
def fd_96 (a1 : Int32) (M : am_M) : Option (am_M) := if a1 = (-1 : Int32) then (some M) else ((fd_97 a1 M).bind fun q2 => (fd_98 q2.1 q2.2).bind fun q4 => some q4)
theorem te_96 {L : Nat} {xs : Nat → Int32} (a1 : Int32) (M : am_M) (q : am_M) (h : fd_96 a1 M = some q) : am_ev (tb_P L xs) 96 0 [some (.ref 94), some (.int a1)] [] sh_A M (none, sh_A, q) := by
  unfold fd_96 at h
  refine am_ev_go (pc' := (am_br .eq a1 (-1 : Int32) 20 5)) (L' := [some (.ref 94), some (.int a1)]) (st' := []) (sh' := sh_A) (M' := M) 3 rfl ?_
  refine ev_eq (fun hc1 => ?_) (fun hc1 => ?_)
  · rw [if_pos hc1] at h
    cases h
    exact am_ev_ret rfl
  · rw [if_neg hc1] at h
    refine am_ev_go (pc' := 14) (L' := [some (.ref 94), some (.int a1)]) (st' := [.int a1, .ref 79, .ref 92]) (sh' := sh_A) (M' := M) 5 rfl ?_
    obtain ⟨q2, hq3, h⟩ := Option.bind_eq_some_iff.mp h
    refine am_ev_call (mj := 97) (as := [.ref 79, .int a1]) (rest := [.ref 92]) (rv := some (.int q2.1)) (sh' := sh_A) (M' := q2.2) rfl (te_97 _ _ _ hq3) ?_
    show am_ev _ 96 17 [some (.ref 94), some (.int a1)] [.int q2.1, .ref 92] sh_A q2.2 _
    obtain ⟨q4, hq5, h⟩ := Option.bind_eq_some_iff.mp h
    refine am_ev_call (mj := 98) (as := [.ref 92, .int q2.1]) (rest := []) (rv := none) (sh' := sh_A) (M' := q4) rfl (te_98 _ _ _ hq5) ?_
    show am_ev _ 96 20 [some (.ref 94), some (.int a1)] [] sh_A q4 _
    cases h
    exact am_ev_ret rfl
/-- CountedActors$Heap.countOf(II)I -/
def fd_101 (a1 : Int32) (a2 : Int32) (M : am_M) : Option (Int32 × am_M) := if ((a1 * (16 : Int32)) + a2) < 0 ∨ 64 ≤ ((a1 * (16 : Int32)) + a2).toNatClampNeg then none else some ((M 83 ((a1 * (16 : Int32)) + a2).toNatClampNeg), M)
theorem te_101 {L : Nat} {xs : Nat → Int32} (a1 : Int32) (a2 : Int32) (M : am_M) (q : Int32 × am_M) (h : fd_101 a1 a2 M = some q) : am_ev (tb_P L xs) 101 0 [some (.ref 79), some (.int a1), some (.int a2)] [] sh_A M (some (.int q.1), sh_A, q.2) := by
  unfold fd_101 at h
  refine am_ev_go (pc' := 10) (L' := [some (.ref 79), some (.int a1), some (.int a2)]) (st' := [.int ((a1 * (16 : Int32)) + a2), .ref 83]) (sh' := sh_A) (M' := M) 7 rfl ?_
  by_cases hg1 : ((a1 * (16 : Int32)) + a2) < 0 ∨ 64 ≤ ((a1 * (16 : Int32)) + a2).toNatClampNeg
  case pos => rw [if_pos hg1] at h; cases h
  rw [if_neg hg1] at h
  refine ev_iald rfl rfl hg1 ?_
  cases h
  exact am_ev_ret rfl
def fd_100_49 (k4 : Int32 → Int32 → Int32 → am_M → Option (Int32 × am_M)) (x1 : Int32) (x2 : Int32) (x3 : Int32) (M : am_M) : Option (Int32 × am_M) := k4 x1 x2 (x3 + (1 : Int32)) M
theorem te_100_49 {L : Nat} {xs : Nat → Int32} {k4 : Int32 → Int32 → Int32 → am_M → Option (Int32 × am_M)} (hk4 : ∀ (x1 : Int32) (x2 : Int32) (x3 : Int32) (M : am_M) (q : Int32 × am_M), k4 x1 x2 x3 M = some q → am_ev (tb_P L xs) 100 4 [some (.ref 94), some (.int x1), some (.int x2), some (.int x3)] [] sh_A M (some (.int q.1), sh_A, q.2)) (x1 : Int32) (x2 : Int32) (x3 : Int32) (M : am_M) (q : Int32 × am_M) (h : fd_100_49 k4 x1 x2 x3 M = some q) : am_ev (tb_P L xs) 100 49 [some (.ref 94), some (.int x1), some (.int x2), some (.int x3)] [] sh_A M (some (.int q.1), sh_A, q.2) := by
  unfold fd_100_49 at h
  refine am_ev_go (pc' := 4) (L' := [some (.ref 94), some (.int x1), some (.int x2), some (.int (x3 + (1 : Int32)))]) (st' := []) (sh' := sh_A) (M' := M) 2 rfl ?_
  exact hk4 _ _ _ _ _ h
def fd_100_4 (f : Nat) : Int32 → Int32 → Int32 → am_M → Option (Int32 × am_M) := Nat.rec (motive := fun _ => Int32 → Int32 → Int32 → am_M → Option (Int32 × am_M)) (fun _ _ _ _ => none) (fun _ k4 => fun x1 x2 x3 M => if (16 : Int32) ≤ x3 then (some (x2, M)) else ((fd_80 x3 M).bind fun q2 => if q2.1 = (0 : Int32) then (fd_100_49 k4 x1 x2 x3 q2.2) else ((fd_81 x3 q2.2).bind fun q5 => if q5.1 = x1 then (fd_100_49 k4 x1 x2 x3 q5.2) else ((fd_101 x1 x3 q5.2).bind fun q8 => if (2 : Int32) ≤ q8.1 then (fd_100_49 k4 x1 x2 x3 q8.2) else (fd_100_49 k4 x1 (x2 + (1 : Int32)) x3 q8.2))))) f
theorem te_100_4 {L : Nat} {xs : Nat → Int32} : ∀ (f : Nat) (x1 : Int32) (x2 : Int32) (x3 : Int32) (M : am_M) (q : Int32 × am_M), fd_100_4 f x1 x2 x3 M = some q → am_ev (tb_P L xs) 100 4 [some (.ref 94), some (.int x1), some (.int x2), some (.int x3)] [] sh_A M (some (.int q.1), sh_A, q.2) := by
  intro f
  induction f with
  | zero => intro x1 x2 x3 M q h; cases h
  | succ f hk4 =>
    intro x1 x2 x3 M q h
    change (if (16 : Int32) ≤ x3 then (some (x2, M)) else ((fd_80 x3 M).bind fun q2 => if q2.1 = (0 : Int32) then (fd_100_49 (fd_100_4 f) x1 x2 x3 q2.2) else ((fd_81 x3 q2.2).bind fun q5 => if q5.1 = x1 then (fd_100_49 (fd_100_4 f) x1 x2 x3 q5.2) else ((fd_101 x1 x3 q5.2).bind fun q8 => if (2 : Int32) ≤ q8.1 then (fd_100_49 (fd_100_4 f) x1 x2 x3 q8.2) else (fd_100_49 (fd_100_4 f) x1 (x2 + (1 : Int32)) x3 q8.2))))) = some q at h
    refine am_ev_go (pc' := (am_br .ge x3 (16 : Int32) 55 10)) (L' := [some (.ref 94), some (.int x1), some (.int x2), some (.int x3)]) (st' := []) (sh' := sh_A) (M' := M) 3 rfl ?_
    refine ev_ge (fun hc1 => ?_) (fun hc1 => ?_)
    · rw [if_pos hc1] at h
      refine am_ev_go (pc' := 56) (L' := [some (.ref 94), some (.int x1), some (.int x2), some (.int x3)]) (st' := [.int x2]) (sh' := sh_A) (M' := M) 1 rfl ?_
      cases h
      exact am_ev_ret rfl
    · rw [if_neg hc1] at h
      refine am_ev_go (pc' := 15) (L' := [some (.ref 94), some (.int x1), some (.int x2), some (.int x3)]) (st' := [.int x3, .ref 89]) (sh' := sh_A) (M' := M) 3 rfl ?_
      obtain ⟨q2, hq3, h⟩ := Option.bind_eq_some_iff.mp h
      refine am_ev_call (mj := 80) (as := [.ref 89, .int x3]) (rest := []) (rv := some (.int q2.1)) (sh' := sh_A) (M' := q2.2) rfl (te_80 _ _ _ hq3) ?_
      show am_ev _ 100 18 [some (.ref 94), some (.int x1), some (.int x2), some (.int x3)] [.int q2.1] sh_A q2.2 _
      refine am_ev_go (pc' := (am_br .eq q2.1 0 49 21)) (L' := [some (.ref 94), some (.int x1), some (.int x2), some (.int x3)]) (st' := []) (sh' := sh_A) (M' := q2.2) 1 rfl ?_
      refine ev_eq (fun hc4 => ?_) (fun hc4 => ?_)
      · rw [if_pos hc4] at h
        exact te_100_49 hk4 _ _ _ _ _ h
      · rw [if_neg hc4] at h
        refine am_ev_go (pc' := 26) (L' := [some (.ref 94), some (.int x1), some (.int x2), some (.int x3)]) (st' := [.int x3, .ref 79]) (sh' := sh_A) (M' := q2.2) 3 rfl ?_
        obtain ⟨q5, hq6, h⟩ := Option.bind_eq_some_iff.mp h
        refine am_ev_call (mj := 81) (as := [.ref 79, .int x3]) (rest := []) (rv := some (.int q5.1)) (sh' := sh_A) (M' := q5.2) rfl (te_81 _ _ _ hq6) ?_
        show am_ev _ 100 29 [some (.ref 94), some (.int x1), some (.int x2), some (.int x3)] [.int q5.1] sh_A q5.2 _
        refine am_ev_go (pc' := (am_br .eq q5.1 x1 49 33)) (L' := [some (.ref 94), some (.int x1), some (.int x2), some (.int x3)]) (st' := []) (sh' := sh_A) (M' := q5.2) 2 rfl ?_
        refine ev_eq (fun hc7 => ?_) (fun hc7 => ?_)
        · rw [if_pos hc7] at h
          exact te_100_49 hk4 _ _ _ _ _ h
        · rw [if_neg hc7] at h
          refine am_ev_go (pc' := 39) (L' := [some (.ref 94), some (.int x1), some (.int x2), some (.int x3)]) (st' := [.int x3, .int x1, .ref 79]) (sh' := sh_A) (M' := q5.2) 4 rfl ?_
          obtain ⟨q8, hq9, h⟩ := Option.bind_eq_some_iff.mp h
          refine am_ev_call (mj := 101) (as := [.ref 79, .int x1, .int x3]) (rest := []) (rv := some (.int q8.1)) (sh' := sh_A) (M' := q8.2) rfl (te_101 _ _ _ _ hq9) ?_
          show am_ev _ 100 42 [some (.ref 94), some (.int x1), some (.int x2), some (.int x3)] [.int q8.1] sh_A q8.2 _
          refine am_ev_go (pc' := (am_br .ge q8.1 (2 : Int32) 49 46)) (L' := [some (.ref 94), some (.int x1), some (.int x2), some (.int x3)]) (st' := []) (sh' := sh_A) (M' := q8.2) 2 rfl ?_
          refine ev_ge (fun hc10 => ?_) (fun hc10 => ?_)
          · rw [if_pos hc10] at h
            exact te_100_49 hk4 _ _ _ _ _ h
          · rw [if_neg hc10] at h
            refine am_ev_go (pc' := 49) (L' := [some (.ref 94), some (.int x1), some (.int (x2 + (1 : Int32))), some (.int x3)]) (st' := []) (sh' := sh_A) (M' := q8.2) 1 rfl ?_
            exact te_100_49 hk4 _ _ _ _ _ h
/-- CountedActors$Machine.raisesNeeded(I)I -/
def fd_100 (a1 : Int32) (M : am_M) : Option (Int32 × am_M) := fd_100_4 1000 a1 (0 : Int32) (0 : Int32) M
theorem te_100 {L : Nat} {xs : Nat → Int32} (a1 : Int32) (M : am_M) (q : Int32 × am_M) (h : fd_100 a1 M = some q) : am_ev (tb_P L xs) 100 0 [some (.ref 94), some (.int a1), none, none] [] sh_A M (some (.int q.1), sh_A, q.2) := by
  unfold fd_100 at h
  refine am_ev_go (pc' := 4) (L' := [some (.ref 94), some (.int a1), some (.int (0 : Int32)), some (.int (0 : Int32))]) (st' := []) (sh' := sh_A) (M' := M) 4 rfl ?_
  exact te_100_4 1000 _ _ _ _ _ h
/-- CountedActors$Machine.countSent(II)V -/
def fd_102 (a1 : Int32) (a2 : Int32) (M : am_M) : Option (am_M) := (fd_81 a2 M).bind fun q1 => if q1.1 = a1 then ((fd_82 a1 a2 (1 : Int32) q1.2).bind fun q15 => some q15) else ((fd_101 a1 a2 q1.2).bind fun q4 => if q4.1 < (2 : Int32) then ((fd_81 a2 q4.2).bind fun q7 => (fd_66 (1 : Int32) q7.1 a2 (8 : Int32) q7.2).bind fun q9 => (fd_82 a1 a2 (7 : Int32) q9).bind fun q11 => some q11) else ((fd_82 a1 a2 (-1 : Int32) q4.2).bind fun q13 => some q13))
theorem te_102 {L : Nat} {xs : Nat → Int32} (a1 : Int32) (a2 : Int32) (M : am_M) (q : am_M) (h : fd_102 a1 a2 M = some q) : am_ev (tb_P L xs) 102 0 [some (.ref 94), some (.int a1), some (.int a2)] [] sh_A M (none, sh_A, q) := by
  unfold fd_102 at h
  refine am_ev_go (pc' := 5) (L' := [some (.ref 94), some (.int a1), some (.int a2)]) (st' := [.int a2, .ref 79]) (sh' := sh_A) (M' := M) 3 rfl ?_
  obtain ⟨q1, hq2, h⟩ := Option.bind_eq_some_iff.mp h
  refine am_ev_call (mj := 81) (as := [.ref 79, .int a2]) (rest := []) (rv := some (.int q1.1)) (sh' := sh_A) (M' := q1.2) rfl (te_81 _ _ _ hq2) ?_
  show am_ev _ 102 8 [some (.ref 94), some (.int a1), some (.int a2)] [.int q1.1] sh_A q1.2 _
  refine am_ev_go (pc' := (am_br .ne q1.1 a1 25 12)) (L' := [some (.ref 94), some (.int a1), some (.int a2)]) (st' := []) (sh' := sh_A) (M' := q1.2) 2 rfl ?_
  refine ev_ne (fun hc3 => ?_) (fun hc3 => ?_)
  · rw [if_neg hc3] at h
    refine am_ev_go (pc' := 31) (L' := [some (.ref 94), some (.int a1), some (.int a2)]) (st' := [.int a2, .int a1, .ref 79]) (sh' := sh_A) (M' := q1.2) 4 rfl ?_
    obtain ⟨q4, hq5, h⟩ := Option.bind_eq_some_iff.mp h
    refine am_ev_call (mj := 101) (as := [.ref 79, .int a1, .int a2]) (rest := []) (rv := some (.int q4.1)) (sh' := sh_A) (M' := q4.2) rfl (te_101 _ _ _ _ hq5) ?_
    show am_ev _ 102 34 [some (.ref 94), some (.int a1), some (.int a2)] [.int q4.1] sh_A q4.2 _
    refine am_ev_go (pc' := (am_br .lt q4.1 (2 : Int32) 51 38)) (L' := [some (.ref 94), some (.int a1), some (.int a2)]) (st' := []) (sh' := sh_A) (M' := q4.2) 2 rfl ?_
    refine ev_lt (fun hc6 => ?_) (fun hc6 => ?_)
    · rw [if_pos hc6] at h
      refine am_ev_go (pc' := 61) (L' := [some (.ref 94), some (.int a1), some (.int a2)]) (st' := [.int a2, .ref 79, .int (1 : Int32), .ref 84]) (sh' := sh_A) (M' := q4.2) 6 rfl ?_
      obtain ⟨q7, hq8, h⟩ := Option.bind_eq_some_iff.mp h
      refine am_ev_call (mj := 81) (as := [.ref 79, .int a2]) (rest := [.int (1 : Int32), .ref 84]) (rv := some (.int q7.1)) (sh' := sh_A) (M' := q7.2) rfl (te_81 _ _ _ hq8) ?_
      show am_ev _ 102 64 [some (.ref 94), some (.int a1), some (.int a2)] [.int q7.1, .int (1 : Int32), .ref 84] sh_A q7.2 _
      refine am_ev_go (pc' := 67) (L' := [some (.ref 94), some (.int a1), some (.int a2)]) (st' := [.int (8 : Int32), .int a2, .int q7.1, .int (1 : Int32), .ref 84]) (sh' := sh_A) (M' := q7.2) 2 rfl ?_
      obtain ⟨q9, hq10, h⟩ := Option.bind_eq_some_iff.mp h
      refine am_ev_call (mj := 66) (as := [.ref 84, .int (1 : Int32), .int q7.1, .int a2, .int (8 : Int32)]) (rest := []) (rv := none) (sh' := sh_A) (M' := q9) rfl (te_66 _ _ _ _ _ _ hq10) ?_
      show am_ev _ 102 70 [some (.ref 94), some (.int a1), some (.int a2)] [] sh_A q9 _
      refine am_ev_go (pc' := 78) (L' := [some (.ref 94), some (.int a1), some (.int a2)]) (st' := [.int (7 : Int32), .int a2, .int a1, .ref 79]) (sh' := sh_A) (M' := q9) 5 rfl ?_
      obtain ⟨q11, hq12, h⟩ := Option.bind_eq_some_iff.mp h
      refine am_ev_call (mj := 82) (as := [.ref 79, .int a1, .int a2, .int (7 : Int32)]) (rest := []) (rv := none) (sh' := sh_A) (M' := q11) rfl (te_82 _ _ _ _ _ hq12) ?_
      show am_ev _ 102 81 [some (.ref 94), some (.int a1), some (.int a2)] [] sh_A q11 _
      cases h
      exact am_ev_ret rfl
    · rw [if_neg hc6] at h
      refine am_ev_go (pc' := 45) (L' := [some (.ref 94), some (.int a1), some (.int a2)]) (st' := [.int (-1 : Int32), .int a2, .int a1, .ref 79]) (sh' := sh_A) (M' := q4.2) 5 rfl ?_
      obtain ⟨q13, hq14, h⟩ := Option.bind_eq_some_iff.mp h
      refine am_ev_call (mj := 82) (as := [.ref 79, .int a1, .int a2, .int (-1 : Int32)]) (rest := []) (rv := none) (sh' := sh_A) (M' := q13) rfl (te_82 _ _ _ _ _ hq14) ?_
      show am_ev _ 102 48 [some (.ref 94), some (.int a1), some (.int a2)] [] sh_A q13 _
      refine am_ev_go (pc' := 81) (L' := [some (.ref 94), some (.int a1), some (.int a2)]) (st' := []) (sh' := sh_A) (M' := q13) 1 rfl ?_
      cases h
      exact am_ev_ret rfl
  · rw [if_pos hc3] at h
    refine am_ev_go (pc' := 19) (L' := [some (.ref 94), some (.int a1), some (.int a2)]) (st' := [.int (1 : Int32), .int a2, .int a1, .ref 79]) (sh' := sh_A) (M' := q1.2) 5 rfl ?_
    obtain ⟨q15, hq16, h⟩ := Option.bind_eq_some_iff.mp h
    refine am_ev_call (mj := 82) (as := [.ref 79, .int a1, .int a2, .int (1 : Int32)]) (rest := []) (rv := none) (sh' := sh_A) (M' := q15) rfl (te_82 _ _ _ _ _ hq16) ?_
    show am_ev _ 102 22 [some (.ref 94), some (.int a1), some (.int a2)] [] sh_A q15 _
    refine am_ev_go (pc' := 81) (L' := [some (.ref 94), some (.int a1), some (.int a2)]) (st' := []) (sh' := sh_A) (M' := q15) 1 rfl ?_
    cases h
    exact am_ev_ret rfl
def fd_99_81 (k55 : Int32 → Int32 → Int32 → Int32 → Int32 → am_M → Option (am_M)) (x1 : Int32) (x2 : Int32) (x3 : Int32) (x4 : Int32) (x5 : Int32) (M : am_M) : Option (am_M) := k55 x1 x2 x3 x4 (x5 + (1 : Int32)) M
theorem te_99_81 {L : Nat} {xs : Nat → Int32} {k55 : Int32 → Int32 → Int32 → Int32 → Int32 → am_M → Option (am_M)} (hk55 : ∀ (x1 : Int32) (x2 : Int32) (x3 : Int32) (x4 : Int32) (x5 : Int32) (M : am_M) (q : am_M), k55 x1 x2 x3 x4 x5 M = some q → am_ev (tb_P L xs) 99 55 [some (.ref 94), some (.int x1), some (.int x2), some (.int x3), some (.int x4), some (.int x5)] [] sh_A M (none, sh_A, q)) (x1 : Int32) (x2 : Int32) (x3 : Int32) (x4 : Int32) (x5 : Int32) (M : am_M) (q : am_M) (h : fd_99_81 k55 x1 x2 x3 x4 x5 M = some q) : am_ev (tb_P L xs) 99 81 [some (.ref 94), some (.int x1), some (.int x2), some (.int x3), some (.int x4), some (.int x5)] [] sh_A M (none, sh_A, q) := by
  unfold fd_99_81 at h
  refine am_ev_go (pc' := 55) (L' := [some (.ref 94), some (.int x1), some (.int x2), some (.int x3), some (.int x4), some (.int (x5 + (1 : Int32)))]) (st' := []) (sh' := sh_A) (M' := M) 2 rfl ?_
  exact hk55 _ _ _ _ _ _ _ h
def fd_99_55 (f : Nat) : Int32 → Int32 → Int32 → Int32 → Int32 → am_M → Option (am_M) := Nat.rec (motive := fun _ => Int32 → Int32 → Int32 → Int32 → Int32 → am_M → Option (am_M)) (fun _ _ _ _ _ _ => none) (fun _ k55 => fun x1 x2 x3 x4 x5 M => if (16 : Int32) ≤ x5 then ((fd_66 (0 : Int32) x2 x3 x4 M).bind fun q2 => some q2) else ((fd_80 x5 M).bind fun q4 => if q4.1 = (0 : Int32) then (fd_99_81 k55 x1 x2 x3 x4 x5 q4.2) else ((fd_102 x1 x5 q4.2).bind fun q7 => fd_99_81 k55 x1 x2 x3 x4 x5 q7))) f
theorem te_99_55 {L : Nat} {xs : Nat → Int32} : ∀ (f : Nat) (x1 : Int32) (x2 : Int32) (x3 : Int32) (x4 : Int32) (x5 : Int32) (M : am_M) (q : am_M), fd_99_55 f x1 x2 x3 x4 x5 M = some q → am_ev (tb_P L xs) 99 55 [some (.ref 94), some (.int x1), some (.int x2), some (.int x3), some (.int x4), some (.int x5)] [] sh_A M (none, sh_A, q) := by
  intro f
  induction f with
  | zero => intro x1 x2 x3 x4 x5 M q h; cases h
  | succ f hk55 =>
    intro x1 x2 x3 x4 x5 M q h
    change (if (16 : Int32) ≤ x5 then ((fd_66 (0 : Int32) x2 x3 x4 M).bind fun q2 => some q2) else ((fd_80 x5 M).bind fun q4 => if q4.1 = (0 : Int32) then (fd_99_81 (fd_99_55 f) x1 x2 x3 x4 x5 q4.2) else ((fd_102 x1 x5 q4.2).bind fun q7 => fd_99_81 (fd_99_55 f) x1 x2 x3 x4 x5 q7))) = some q at h
    refine am_ev_go (pc' := (am_br .ge x5 (16 : Int32) 87 62)) (L' := [some (.ref 94), some (.int x1), some (.int x2), some (.int x3), some (.int x4), some (.int x5)]) (st' := []) (sh' := sh_A) (M' := M) 3 rfl ?_
    refine ev_ge (fun hc1 => ?_) (fun hc1 => ?_)
    · rw [if_pos hc1] at h
      refine am_ev_go (pc' := 96) (L' := [some (.ref 94), some (.int x1), some (.int x2), some (.int x3), some (.int x4), some (.int x5)]) (st' := [.int x4, .int x3, .int x2, .int (0 : Int32), .ref 84]) (sh' := sh_A) (M' := M) 6 rfl ?_
      obtain ⟨q2, hq3, h⟩ := Option.bind_eq_some_iff.mp h
      refine am_ev_call (mj := 66) (as := [.ref 84, .int (0 : Int32), .int x2, .int x3, .int x4]) (rest := []) (rv := none) (sh' := sh_A) (M' := q2) rfl (te_66 _ _ _ _ _ _ hq3) ?_
      show am_ev _ 99 99 [some (.ref 94), some (.int x1), some (.int x2), some (.int x3), some (.int x4), some (.int x5)] [] sh_A q2 _
      cases h
      exact am_ev_ret rfl
    · rw [if_neg hc1] at h
      refine am_ev_go (pc' := 68) (L' := [some (.ref 94), some (.int x1), some (.int x2), some (.int x3), some (.int x4), some (.int x5)]) (st' := [.int x5, .ref 89]) (sh' := sh_A) (M' := M) 3 rfl ?_
      obtain ⟨q4, hq5, h⟩ := Option.bind_eq_some_iff.mp h
      refine am_ev_call (mj := 80) (as := [.ref 89, .int x5]) (rest := []) (rv := some (.int q4.1)) (sh' := sh_A) (M' := q4.2) rfl (te_80 _ _ _ hq5) ?_
      show am_ev _ 99 71 [some (.ref 94), some (.int x1), some (.int x2), some (.int x3), some (.int x4), some (.int x5)] [.int q4.1] sh_A q4.2 _
      refine am_ev_go (pc' := (am_br .eq q4.1 0 81 74)) (L' := [some (.ref 94), some (.int x1), some (.int x2), some (.int x3), some (.int x4), some (.int x5)]) (st' := []) (sh' := sh_A) (M' := q4.2) 1 rfl ?_
      refine ev_eq (fun hc6 => ?_) (fun hc6 => ?_)
      · rw [if_pos hc6] at h
        exact te_99_81 hk55 _ _ _ _ _ _ _ h
      · rw [if_neg hc6] at h
        refine am_ev_go (pc' := 78) (L' := [some (.ref 94), some (.int x1), some (.int x2), some (.int x3), some (.int x4), some (.int x5)]) (st' := [.int x5, .int x1, .ref 94]) (sh' := sh_A) (M' := q4.2) 3 rfl ?_
        obtain ⟨q7, hq8, h⟩ := Option.bind_eq_some_iff.mp h
        refine am_ev_call (mj := 102) (as := [.ref 94, .int x1, .int x5]) (rest := []) (rv := none) (sh' := sh_A) (M' := q7) rfl (te_102 _ _ _ _ hq8) ?_
        show am_ev _ 99 81 [some (.ref 94), some (.int x1), some (.int x2), some (.int x3), some (.int x4), some (.int x5)] [] sh_A q7 _
        exact te_99_81 hk55 _ _ _ _ _ _ _ h
/-- CountedActors$Machine.send(IIII)V -/
def fd_99 (a1 : Int32) (a2 : Int32) (a3 : Int32) (a4 : Int32) (M : am_M) : Option (am_M) := (fd_43 a4 M).bind fun q1 => (fd_75 a3 q1.1 q1.2).bind fun q3 => (fd_78 q3).bind fun q5 => (fd_65 q5).bind fun q7 => (fd_100 a1 q7.2).bind fun q9 => if ((1 : Int32) + q9.1) ≤ q7.1 then (fd_99_55 1000 a1 a2 a3 a4 (0 : Int32) q9.2) else (some (ds_w q9.2 94 7 ((q9.2 94 7) + (1 : Int32))))
theorem te_99 {L : Nat} {xs : Nat → Int32} (a1 : Int32) (a2 : Int32) (a3 : Int32) (a4 : Int32) (M : am_M) (q : am_M) (h : fd_99 a1 a2 a3 a4 M = some q) : am_ev (tb_P L xs) 99 0 [some (.ref 94), some (.int a1), some (.int a2), some (.int a3), some (.int a4), none] [] sh_A M (none, sh_A, q) := by
  unfold fd_99 at h
  refine am_ev_go (pc' := 11) (L' := [some (.ref 94), some (.int a1), some (.int a2), some (.int a3), some (.int a4), none]) (st' := [.int a4, .ref 1, .int a3, .ref 89]) (sh' := sh_A) (M' := M) 6 rfl ?_
  obtain ⟨q1, hq2, h⟩ := Option.bind_eq_some_iff.mp h
  refine am_ev_call (mj := 43) (as := [.ref 1, .int a4]) (rest := [.int a3, .ref 89]) (rv := some (.int q1.1)) (sh' := sh_A) (M' := q1.2) rfl (te_43 _ _ _ hq2) ?_
  show am_ev _ 99 14 [some (.ref 94), some (.int a1), some (.int a2), some (.int a3), some (.int a4), none] [.int q1.1, .int a3, .ref 89] sh_A q1.2 _
  obtain ⟨q3, hq4, h⟩ := Option.bind_eq_some_iff.mp h
  refine am_ev_call (mj := 75) (as := [.ref 89, .int a3, .int q1.1]) (rest := []) (rv := none) (sh' := sh_A) (M' := q3) rfl (te_75 _ _ _ _ hq4) ?_
  show am_ev _ 99 17 [some (.ref 94), some (.int a1), some (.int a2), some (.int a3), some (.int a4), none] [] sh_A q3 _
  refine am_ev_go (pc' := 21) (L' := [some (.ref 94), some (.int a1), some (.int a2), some (.int a3), some (.int a4), none]) (st' := [.ref 89]) (sh' := sh_A) (M' := q3) 2 rfl ?_
  obtain ⟨q5, hq6, h⟩ := Option.bind_eq_some_iff.mp h
  refine am_ev_call (mj := 78) (as := [.ref 89]) (rest := []) (rv := none) (sh' := sh_A) (M' := q5) rfl (te_78 _ _ hq6) ?_
  show am_ev _ 99 24 [some (.ref 94), some (.int a1), some (.int a2), some (.int a3), some (.int a4), none] [] sh_A q5 _
  refine am_ev_go (pc' := 28) (L' := [some (.ref 94), some (.int a1), some (.int a2), some (.int a3), some (.int a4), none]) (st' := [.ref 84]) (sh' := sh_A) (M' := q5) 2 rfl ?_
  obtain ⟨q7, hq8, h⟩ := Option.bind_eq_some_iff.mp h
  refine am_ev_call (mj := 65) (as := [.ref 84]) (rest := []) (rv := some (.int q7.1)) (sh' := sh_A) (M' := q7.2) rfl (te_65 _ _ hq8) ?_
  show am_ev _ 99 31 [some (.ref 94), some (.int a1), some (.int a2), some (.int a3), some (.int a4), none] [.int q7.1] sh_A q7.2 _
  refine am_ev_go (pc' := 34) (L' := [some (.ref 94), some (.int a1), some (.int a2), some (.int a3), some (.int a4), none]) (st' := [.int a1, .ref 94, .int (1 : Int32), .int q7.1]) (sh' := sh_A) (M' := q7.2) 3 rfl ?_
  obtain ⟨q9, hq10, h⟩ := Option.bind_eq_some_iff.mp h
  refine am_ev_call (mj := 100) (as := [.ref 94, .int a1]) (rest := [.int (1 : Int32), .int q7.1]) (rv := some (.int q9.1)) (sh' := sh_A) (M' := q9.2) rfl (te_100 _ _ _ hq10) ?_
  show am_ev _ 99 37 [some (.ref 94), some (.int a1), some (.int a2), some (.int a3), some (.int a4), none] [.int q9.1, .int (1 : Int32), .int q7.1] sh_A q9.2 _
  refine am_ev_go (pc' := (am_br .ge q7.1 ((1 : Int32) + q9.1) 52 41)) (L' := [some (.ref 94), some (.int a1), some (.int a2), some (.int a3), some (.int a4), none]) (st' := []) (sh' := sh_A) (M' := q9.2) 2 rfl ?_
  refine ev_ge (fun hc11 => ?_) (fun hc11 => ?_)
  · rw [if_pos hc11] at h
    refine am_ev_go (pc' := 55) (L' := [some (.ref 94), some (.int a1), some (.int a2), some (.int a3), some (.int a4), some (.int (0 : Int32))]) (st' := []) (sh' := sh_A) (M' := q9.2) 2 rfl ?_
    exact te_99_55 1000 _ _ _ _ _ _ _ h
  · rw [if_neg hc11] at h
    refine am_ev_go (pc' := 51) (L' := [some (.ref 94), some (.int a1), some (.int a2), some (.int a3), some (.int a4), none]) (st' := []) (sh' := sh_A) (M' := (ds_w q9.2 94 7 ((q9.2 94 7) + (1 : Int32)))) 6 rfl ?_
    cases h
    exact am_ev_ret rfl
/-- CountedActors$Machine.perform(ILCountedActors$Statement;)V -/
def fd_85 (a1 : Int32) (h2 : Nat) (M : am_M) : Option (am_M) := if (M h2 0) = (0 : Int32) then ((fd_86 a1 M).bind fun q2 => if (M h2 1) < 0 ∨ 6 ≤ (M h2 1).toNatClampNeg then none else some (ds_w q2.2 95 (M h2 1).toNatClampNeg q2.1)) else if (M h2 0) = (1 : Int32) then (if (M h2 2) < 0 ∨ 6 ≤ (M h2 2).toNatClampNeg then none else if (M h2 1) < 0 ∨ 6 ≤ (M h2 1).toNatClampNeg then none else some (ds_w M 95 (M h2 1).toNatClampNeg (M 95 (M h2 2).toNatClampNeg))) else if (M h2 0) = (2 : Int32) then (if (M h2 2) < 0 ∨ 6 ≤ (M h2 2).toNatClampNeg then none else if (M h2 1) < 0 ∨ 6 ≤ (M h2 1).toNatClampNeg then none else some (ds_w M 95 (M h2 1).toNatClampNeg (M 95 (M h2 2).toNatClampNeg))) else if (M h2 0) = (3 : Int32) then ((fd_90 a1 (M h2 2) M).bind fun q12 => (fd_92 q12.1 (q12.2 h2 3) q12.2).bind fun q14 => if (M h2 1) < 0 ∨ 6 ≤ (M h2 1).toNatClampNeg then none else some (ds_w q14.2 95 (M h2 1).toNatClampNeg q14.1)) else if (M h2 0) = (4 : Int32) then ((fd_90 a1 (M h2 2) M).bind fun q18 => if (q18.2 h2 4) < 0 ∨ 6 ≤ (q18.2 h2 4).toNatClampNeg then none else (fd_93 q18.1 (q18.2 h2 3) (q18.2 95 (q18.2 h2 4).toNatClampNeg) q18.2).bind fun q21 => some q21.2) else if (M h2 0) = (5 : Int32) then ((fd_90 a1 (M h2 2) M).bind fun q24 => if (q24.2 h2 4) < 0 ∨ 6 ≤ (q24.2 h2 4).toNatClampNeg then none else (fd_93 q24.1 (q24.2 h2 3) (q24.2 95 (q24.2 h2 4).toNatClampNeg) q24.2).bind fun q27 => if (M h2 1) < 0 ∨ 6 ≤ (M h2 1).toNatClampNeg then none else some (ds_w q27.2 95 (M h2 1).toNatClampNeg q27.1)) else if (M h2 0) = (6 : Int32) then (if (M h2 2) < 0 ∨ 6 ≤ (M h2 2).toNatClampNeg then none else (fd_94 (M 95 (M h2 2).toNatClampNeg) (M h2 4) M).bind fun q32 => some q32) else if (M h2 0) = (7 : Int32) then (if (M h2 2) < 0 ∨ 6 ≤ (M h2 2).toNatClampNeg then none else (fd_96 (M 95 (M h2 2).toNatClampNeg) M).bind fun q36 => some q36) else if (M h2 0) = (8 : Int32) then (if (M 94 0) = 0 then none else if (M h2 4) < 0 ∨ 6 ≤ (M h2 4).toNatClampNeg then none else (fd_99 a1 ((a1 + (M h2 1)) - (a1 + (M h2 1)) / (M 94 0) * (M 94 0)) (M 95 (M h2 4).toNatClampNeg) (M h2 2) M).bind fun q41 => some q41) else if (M h2 0) = (9 : Int32) then (some M) else if (M h2 0) = (10 : Int32) then (if (M h2 2) < 0 ∨ 6 ≤ (M h2 2).toNatClampNeg then none else if (M h2 1) < 0 ∨ 6 ≤ (M h2 1).toNatClampNeg then none else some (ds_w M 95 (M h2 1).toNatClampNeg (M 95 (M h2 2).toNatClampNeg))) else (some M)
theorem te_85 {L : Nat} {xs : Nat → Int32} (a1 : Int32) (h2 : Nat) (M : am_M) (q : am_M) (hy_h2 : sh_st h2) (h : fd_85 a1 h2 M = some q) : am_ev (tb_P L xs) 85 0 [some (.ref 94), some (.int a1), some (.ref h2)] [] sh_A M (none, sh_A, q) := by
  unfold fd_85 at h
  refine am_ev_go (pc' := 1) (L' := [some (.ref 94), some (.int a1), some (.ref h2)]) (st' := [.ref h2]) (sh' := sh_A) (M' := M) 1 rfl ?_
  refine ev_getI rfl rfl hy_h2 rfl ?_
  by_cases hc1 : (M h2 0) = (0 : Int32)
  · rw [if_pos hc1] at h
    refine ev_swi hc1 rfl (t := 64) rfl ?_
    refine am_ev_go (pc' := 69) (L' := [some (.ref 94), some (.int a1), some (.ref h2)]) (st' := [.ref h2, .ref 95]) (sh' := sh_A) (M' := M) 3 rfl ?_
    refine ev_getI rfl rfl hy_h2 rfl ?_
    refine am_ev_go (pc' := 74) (L' := [some (.ref 94), some (.int a1), some (.ref h2)]) (st' := [.int a1, .ref 94, .int (M h2 1), .ref 95]) (sh' := sh_A) (M' := M) 2 rfl ?_
    obtain ⟨q2, hq3, h⟩ := Option.bind_eq_some_iff.mp h
    refine am_ev_call (mj := 86) (as := [.ref 94, .int a1]) (rest := [.int (M h2 1), .ref 95]) (rv := some (.int q2.1)) (sh' := sh_A) (M' := q2.2) rfl (te_86 _ _ _ hq3) ?_
    show am_ev _ 85 77 [some (.ref 94), some (.int a1), some (.ref h2)] [.int q2.1, .int (M h2 1), .ref 95] sh_A q2.2 _
    by_cases hg4 : (M h2 1) < 0 ∨ 6 ≤ (M h2 1).toNatClampNeg
    case pos => rw [if_pos hg4] at h; cases h
    rw [if_neg hg4] at h
    refine ev_iast rfl rfl hg4 ?_
    refine am_ev_go (pc' := 267) (L' := [some (.ref 94), some (.int a1), some (.ref h2)]) (st' := []) (sh' := sh_A) (M' := (ds_w q2.2 95 (M h2 1).toNatClampNeg q2.1)) 1 rfl ?_
    cases h
    exact am_ev_ret rfl
  rw [if_neg hc1] at h
  by_cases hc5 : (M h2 0) = (1 : Int32)
  · rw [if_pos hc5] at h
    refine ev_swi hc5 rfl (t := 81) rfl ?_
    refine am_ev_go (pc' := 86) (L' := [some (.ref 94), some (.int a1), some (.ref h2)]) (st' := [.ref h2, .ref 95]) (sh' := sh_A) (M' := M) 3 rfl ?_
    refine ev_getI rfl rfl hy_h2 rfl ?_
    refine am_ev_go (pc' := 94) (L' := [some (.ref 94), some (.int a1), some (.ref h2)]) (st' := [.ref h2, .ref 95, .int (M h2 1), .ref 95]) (sh' := sh_A) (M' := M) 3 rfl ?_
    refine ev_getI rfl rfl hy_h2 rfl ?_
    by_cases hg6 : (M h2 2) < 0 ∨ 6 ≤ (M h2 2).toNatClampNeg
    case pos => rw [if_pos hg6] at h; cases h
    rw [if_neg hg6] at h
    refine ev_iald rfl rfl hg6 ?_
    by_cases hg7 : (M h2 1) < 0 ∨ 6 ≤ (M h2 1).toNatClampNeg
    case pos => rw [if_pos hg7] at h; cases h
    rw [if_neg hg7] at h
    refine ev_iast rfl rfl hg7 ?_
    refine am_ev_go (pc' := 267) (L' := [some (.ref 94), some (.int a1), some (.ref h2)]) (st' := []) (sh' := sh_A) (M' := (ds_w M 95 (M h2 1).toNatClampNeg (M 95 (M h2 2).toNatClampNeg))) 1 rfl ?_
    cases h
    exact am_ev_ret rfl
  rw [if_neg hc5] at h
  by_cases hc8 : (M h2 0) = (2 : Int32)
  · rw [if_pos hc8] at h
    refine ev_swi hc8 rfl (t := 81) rfl ?_
    refine am_ev_go (pc' := 86) (L' := [some (.ref 94), some (.int a1), some (.ref h2)]) (st' := [.ref h2, .ref 95]) (sh' := sh_A) (M' := M) 3 rfl ?_
    refine ev_getI rfl rfl hy_h2 rfl ?_
    refine am_ev_go (pc' := 94) (L' := [some (.ref 94), some (.int a1), some (.ref h2)]) (st' := [.ref h2, .ref 95, .int (M h2 1), .ref 95]) (sh' := sh_A) (M' := M) 3 rfl ?_
    refine ev_getI rfl rfl hy_h2 rfl ?_
    by_cases hg9 : (M h2 2) < 0 ∨ 6 ≤ (M h2 2).toNatClampNeg
    case pos => rw [if_pos hg9] at h; cases h
    rw [if_neg hg9] at h
    refine ev_iald rfl rfl hg9 ?_
    by_cases hg10 : (M h2 1) < 0 ∨ 6 ≤ (M h2 1).toNatClampNeg
    case pos => rw [if_pos hg10] at h; cases h
    rw [if_neg hg10] at h
    refine ev_iast rfl rfl hg10 ?_
    refine am_ev_go (pc' := 267) (L' := [some (.ref 94), some (.int a1), some (.ref h2)]) (st' := []) (sh' := sh_A) (M' := (ds_w M 95 (M h2 1).toNatClampNeg (M 95 (M h2 2).toNatClampNeg))) 1 rfl ?_
    cases h
    exact am_ev_ret rfl
  rw [if_neg hc8] at h
  by_cases hc11 : (M h2 0) = (3 : Int32)
  · rw [if_pos hc11] at h
    refine ev_swi hc11 rfl (t := 102) rfl ?_
    refine am_ev_go (pc' := 107) (L' := [some (.ref 94), some (.int a1), some (.ref h2)]) (st' := [.ref h2, .ref 95]) (sh' := sh_A) (M' := M) 3 rfl ?_
    refine ev_getI rfl rfl hy_h2 rfl ?_
    refine am_ev_go (pc' := 114) (L' := [some (.ref 94), some (.int a1), some (.ref h2)]) (st' := [.ref h2, .int a1, .ref 94, .ref 94, .int (M h2 1), .ref 95]) (sh' := sh_A) (M' := M) 4 rfl ?_
    refine ev_getI rfl rfl hy_h2 rfl ?_
    obtain ⟨q12, hq13, h⟩ := Option.bind_eq_some_iff.mp h
    refine am_ev_call (mj := 90) (as := [.ref 94, .int a1, .int (M h2 2)]) (rest := [.ref 94, .int (M h2 1), .ref 95]) (rv := some (.int q12.1)) (sh' := sh_A) (M' := q12.2) rfl (te_90 _ _ _ _ hq13) ?_
    show am_ev _ 85 120 [some (.ref 94), some (.int a1), some (.ref h2)] [.int q12.1, .ref 94, .int (M h2 1), .ref 95] sh_A q12.2 _
    refine am_ev_go (pc' := 121) (L' := [some (.ref 94), some (.int a1), some (.ref h2)]) (st' := [.ref h2, .int q12.1, .ref 94, .int (M h2 1), .ref 95]) (sh' := sh_A) (M' := q12.2) 1 rfl ?_
    refine ev_getI rfl rfl hy_h2 rfl ?_
    obtain ⟨q14, hq15, h⟩ := Option.bind_eq_some_iff.mp h
    refine am_ev_call (mj := 92) (as := [.ref 94, .int q12.1, .int (q12.2 h2 3)]) (rest := [.int (M h2 1), .ref 95]) (rv := some (.int q14.1)) (sh' := sh_A) (M' := q14.2) rfl (te_92 _ _ _ _ hq15) ?_
    show am_ev _ 85 127 [some (.ref 94), some (.int a1), some (.ref h2)] [.int q14.1, .int (M h2 1), .ref 95] sh_A q14.2 _
    by_cases hg16 : (M h2 1) < 0 ∨ 6 ≤ (M h2 1).toNatClampNeg
    case pos => rw [if_pos hg16] at h; cases h
    rw [if_neg hg16] at h
    refine ev_iast rfl rfl hg16 ?_
    refine am_ev_go (pc' := 267) (L' := [some (.ref 94), some (.int a1), some (.ref h2)]) (st' := []) (sh' := sh_A) (M' := (ds_w q14.2 95 (M h2 1).toNatClampNeg q14.1)) 1 rfl ?_
    cases h
    exact am_ev_ret rfl
  rw [if_neg hc11] at h
  by_cases hc17 : (M h2 0) = (4 : Int32)
  · rw [if_pos hc17] at h
    refine ev_swi hc17 rfl (t := 131) rfl ?_
    refine am_ev_go (pc' := 135) (L' := [some (.ref 94), some (.int a1), some (.ref h2)]) (st' := [.ref h2, .int a1, .ref 94, .ref 94]) (sh' := sh_A) (M' := M) 4 rfl ?_
    refine ev_getI rfl rfl hy_h2 rfl ?_
    obtain ⟨q18, hq19, h⟩ := Option.bind_eq_some_iff.mp h
    refine am_ev_call (mj := 90) (as := [.ref 94, .int a1, .int (M h2 2)]) (rest := [.ref 94]) (rv := some (.int q18.1)) (sh' := sh_A) (M' := q18.2) rfl (te_90 _ _ _ _ hq19) ?_
    show am_ev _ 85 141 [some (.ref 94), some (.int a1), some (.ref h2)] [.int q18.1, .ref 94] sh_A q18.2 _
    refine am_ev_go (pc' := 142) (L' := [some (.ref 94), some (.int a1), some (.ref h2)]) (st' := [.ref h2, .int q18.1, .ref 94]) (sh' := sh_A) (M' := q18.2) 1 rfl ?_
    refine ev_getI rfl rfl hy_h2 rfl ?_
    refine am_ev_go (pc' := 150) (L' := [some (.ref 94), some (.int a1), some (.ref h2)]) (st' := [.ref h2, .ref 95, .int (q18.2 h2 3), .int q18.1, .ref 94]) (sh' := sh_A) (M' := q18.2) 3 rfl ?_
    refine ev_getI rfl rfl hy_h2 rfl ?_
    by_cases hg20 : (q18.2 h2 4) < 0 ∨ 6 ≤ (q18.2 h2 4).toNatClampNeg
    case pos => rw [if_pos hg20] at h; cases h
    rw [if_neg hg20] at h
    refine ev_iald rfl rfl hg20 ?_
    obtain ⟨q21, hq22, h⟩ := Option.bind_eq_some_iff.mp h
    refine am_ev_call (mj := 93) (as := [.ref 94, .int q18.1, .int (q18.2 h2 3), .int (q18.2 95 (q18.2 h2 4).toNatClampNeg)]) (rest := []) (rv := some (.int q21.1)) (sh' := sh_A) (M' := q21.2) rfl (te_93 _ _ _ _ _ hq22) ?_
    show am_ev _ 85 157 [some (.ref 94), some (.int a1), some (.ref h2)] [.int q21.1] sh_A q21.2 _
    refine am_ev_go (pc' := 267) (L' := [some (.ref 94), some (.int a1), some (.ref h2)]) (st' := []) (sh' := sh_A) (M' := q21.2) 2 rfl ?_
    cases h
    exact am_ev_ret rfl
  rw [if_neg hc17] at h
  by_cases hc23 : (M h2 0) = (5 : Int32)
  · rw [if_pos hc23] at h
    refine ev_swi hc23 rfl (t := 161) rfl ?_
    refine am_ev_go (pc' := 166) (L' := [some (.ref 94), some (.int a1), some (.ref h2)]) (st' := [.ref h2, .ref 95]) (sh' := sh_A) (M' := M) 3 rfl ?_
    refine ev_getI rfl rfl hy_h2 rfl ?_
    refine am_ev_go (pc' := 173) (L' := [some (.ref 94), some (.int a1), some (.ref h2)]) (st' := [.ref h2, .int a1, .ref 94, .ref 94, .int (M h2 1), .ref 95]) (sh' := sh_A) (M' := M) 4 rfl ?_
    refine ev_getI rfl rfl hy_h2 rfl ?_
    obtain ⟨q24, hq25, h⟩ := Option.bind_eq_some_iff.mp h
    refine am_ev_call (mj := 90) (as := [.ref 94, .int a1, .int (M h2 2)]) (rest := [.ref 94, .int (M h2 1), .ref 95]) (rv := some (.int q24.1)) (sh' := sh_A) (M' := q24.2) rfl (te_90 _ _ _ _ hq25) ?_
    show am_ev _ 85 179 [some (.ref 94), some (.int a1), some (.ref h2)] [.int q24.1, .ref 94, .int (M h2 1), .ref 95] sh_A q24.2 _
    refine am_ev_go (pc' := 180) (L' := [some (.ref 94), some (.int a1), some (.ref h2)]) (st' := [.ref h2, .int q24.1, .ref 94, .int (M h2 1), .ref 95]) (sh' := sh_A) (M' := q24.2) 1 rfl ?_
    refine ev_getI rfl rfl hy_h2 rfl ?_
    refine am_ev_go (pc' := 188) (L' := [some (.ref 94), some (.int a1), some (.ref h2)]) (st' := [.ref h2, .ref 95, .int (q24.2 h2 3), .int q24.1, .ref 94, .int (M h2 1), .ref 95]) (sh' := sh_A) (M' := q24.2) 3 rfl ?_
    refine ev_getI rfl rfl hy_h2 rfl ?_
    by_cases hg26 : (q24.2 h2 4) < 0 ∨ 6 ≤ (q24.2 h2 4).toNatClampNeg
    case pos => rw [if_pos hg26] at h; cases h
    rw [if_neg hg26] at h
    refine ev_iald rfl rfl hg26 ?_
    obtain ⟨q27, hq28, h⟩ := Option.bind_eq_some_iff.mp h
    refine am_ev_call (mj := 93) (as := [.ref 94, .int q24.1, .int (q24.2 h2 3), .int (q24.2 95 (q24.2 h2 4).toNatClampNeg)]) (rest := [.int (M h2 1), .ref 95]) (rv := some (.int q27.1)) (sh' := sh_A) (M' := q27.2) rfl (te_93 _ _ _ _ _ hq28) ?_
    show am_ev _ 85 195 [some (.ref 94), some (.int a1), some (.ref h2)] [.int q27.1, .int (M h2 1), .ref 95] sh_A q27.2 _
    by_cases hg29 : (M h2 1) < 0 ∨ 6 ≤ (M h2 1).toNatClampNeg
    case pos => rw [if_pos hg29] at h; cases h
    rw [if_neg hg29] at h
    refine ev_iast rfl rfl hg29 ?_
    refine am_ev_go (pc' := 267) (L' := [some (.ref 94), some (.int a1), some (.ref h2)]) (st' := []) (sh' := sh_A) (M' := (ds_w q27.2 95 (M h2 1).toNatClampNeg q27.1)) 1 rfl ?_
    cases h
    exact am_ev_ret rfl
  rw [if_neg hc23] at h
  by_cases hc30 : (M h2 0) = (6 : Int32)
  · rw [if_pos hc30] at h
    refine ev_swi hc30 rfl (t := 199) rfl ?_
    refine am_ev_go (pc' := 205) (L' := [some (.ref 94), some (.int a1), some (.ref h2)]) (st' := [.ref h2, .ref 95, .ref 94]) (sh' := sh_A) (M' := M) 4 rfl ?_
    refine ev_getI rfl rfl hy_h2 rfl ?_
    by_cases hg31 : (M h2 2) < 0 ∨ 6 ≤ (M h2 2).toNatClampNeg
    case pos => rw [if_pos hg31] at h; cases h
    rw [if_neg hg31] at h
    refine ev_iald rfl rfl hg31 ?_
    refine am_ev_go (pc' := 210) (L' := [some (.ref 94), some (.int a1), some (.ref h2)]) (st' := [.ref h2, .int (M 95 (M h2 2).toNatClampNeg), .ref 94]) (sh' := sh_A) (M' := M) 1 rfl ?_
    refine ev_getI rfl rfl hy_h2 rfl ?_
    obtain ⟨q32, hq33, h⟩ := Option.bind_eq_some_iff.mp h
    refine am_ev_call (mj := 94) (as := [.ref 94, .int (M 95 (M h2 2).toNatClampNeg), .int (M h2 4)]) (rest := []) (rv := none) (sh' := sh_A) (M' := q32) rfl (te_94 _ _ _ _ hq33) ?_
    show am_ev _ 85 216 [some (.ref 94), some (.int a1), some (.ref h2)] [] sh_A q32 _
    refine am_ev_go (pc' := 267) (L' := [some (.ref 94), some (.int a1), some (.ref h2)]) (st' := []) (sh' := sh_A) (M' := q32) 1 rfl ?_
    cases h
    exact am_ev_ret rfl
  rw [if_neg hc30] at h
  by_cases hc34 : (M h2 0) = (7 : Int32)
  · rw [if_pos hc34] at h
    refine ev_swi hc34 rfl (t := 219) rfl ?_
    refine am_ev_go (pc' := 225) (L' := [some (.ref 94), some (.int a1), some (.ref h2)]) (st' := [.ref h2, .ref 95, .ref 94]) (sh' := sh_A) (M' := M) 4 rfl ?_
    refine ev_getI rfl rfl hy_h2 rfl ?_
    by_cases hg35 : (M h2 2) < 0 ∨ 6 ≤ (M h2 2).toNatClampNeg
    case pos => rw [if_pos hg35] at h; cases h
    rw [if_neg hg35] at h
    refine ev_iald rfl rfl hg35 ?_
    obtain ⟨q36, hq37, h⟩ := Option.bind_eq_some_iff.mp h
    refine am_ev_call (mj := 96) (as := [.ref 94, .int (M 95 (M h2 2).toNatClampNeg)]) (rest := []) (rv := none) (sh' := sh_A) (M' := q36) rfl (te_96 _ _ _ hq37) ?_
    show am_ev _ 85 232 [some (.ref 94), some (.int a1), some (.ref h2)] [] sh_A q36 _
    refine am_ev_go (pc' := 267) (L' := [some (.ref 94), some (.int a1), some (.ref h2)]) (st' := []) (sh' := sh_A) (M' := q36) 1 rfl ?_
    cases h
    exact am_ev_ret rfl
  rw [if_neg hc34] at h
  by_cases hc38 : (M h2 0) = (8 : Int32)
  · rw [if_pos hc38] at h
    refine ev_swi hc38 rfl (t := 235) rfl ?_
    refine am_ev_go (pc' := 239) (L' := [some (.ref 94), some (.int a1), some (.ref h2)]) (st' := [.ref h2, .int a1, .int a1, .ref 94]) (sh' := sh_A) (M' := M) 4 rfl ?_
    refine ev_getI rfl rfl hy_h2 rfl ?_
    refine am_ev_go (pc' := 247) (L' := [some (.ref 94), some (.int a1), some (.ref h2)]) (st' := [.int (M 94 0), .int (a1 + (M h2 1)), .int a1, .ref 94]) (sh' := sh_A) (M' := M) 3 rfl ?_
    by_cases hg39 : (M 94 0) = 0
    case pos => rw [if_pos hg39] at h; cases h
    rw [if_neg hg39] at h
    refine ev_irem rfl hg39 ?_
    refine am_ev_go (pc' := 253) (L' := [some (.ref 94), some (.int a1), some (.ref h2)]) (st' := [.ref h2, .ref 95, .int ((a1 + (M h2 1)) - (a1 + (M h2 1)) / (M 94 0) * (M 94 0)), .int a1, .ref 94]) (sh' := sh_A) (M' := M) 3 rfl ?_
    refine ev_getI rfl rfl hy_h2 rfl ?_
    by_cases hg40 : (M h2 4) < 0 ∨ 6 ≤ (M h2 4).toNatClampNeg
    case pos => rw [if_pos hg40] at h; cases h
    rw [if_neg hg40] at h
    refine ev_iald rfl rfl hg40 ?_
    refine am_ev_go (pc' := 258) (L' := [some (.ref 94), some (.int a1), some (.ref h2)]) (st' := [.ref h2, .int (M 95 (M h2 4).toNatClampNeg), .int ((a1 + (M h2 1)) - (a1 + (M h2 1)) / (M 94 0) * (M 94 0)), .int a1, .ref 94]) (sh' := sh_A) (M' := M) 1 rfl ?_
    refine ev_getI rfl rfl hy_h2 rfl ?_
    obtain ⟨q41, hq42, h⟩ := Option.bind_eq_some_iff.mp h
    refine am_ev_call (mj := 99) (as := [.ref 94, .int a1, .int ((a1 + (M h2 1)) - (a1 + (M h2 1)) / (M 94 0) * (M 94 0)), .int (M 95 (M h2 4).toNatClampNeg), .int (M h2 2)]) (rest := []) (rv := none) (sh' := sh_A) (M' := q41) rfl (te_99 _ _ _ _ _ _ hq42) ?_
    show am_ev _ 85 264 [some (.ref 94), some (.int a1), some (.ref h2)] [] sh_A q41 _
    refine am_ev_go (pc' := 267) (L' := [some (.ref 94), some (.int a1), some (.ref h2)]) (st' := []) (sh' := sh_A) (M' := q41) 1 rfl ?_
    cases h
    exact am_ev_ret rfl
  rw [if_neg hc38] at h
  by_cases hc43 : (M h2 0) = (9 : Int32)
  · rw [if_pos hc43] at h
    refine ev_swi hc43 rfl (t := 267) rfl ?_
    cases h
    exact am_ev_ret rfl
  rw [if_neg hc43] at h
  by_cases hc44 : (M h2 0) = (10 : Int32)
  · rw [if_pos hc44] at h
    refine ev_swi hc44 rfl (t := 81) rfl ?_
    refine am_ev_go (pc' := 86) (L' := [some (.ref 94), some (.int a1), some (.ref h2)]) (st' := [.ref h2, .ref 95]) (sh' := sh_A) (M' := M) 3 rfl ?_
    refine ev_getI rfl rfl hy_h2 rfl ?_
    refine am_ev_go (pc' := 94) (L' := [some (.ref 94), some (.int a1), some (.ref h2)]) (st' := [.ref h2, .ref 95, .int (M h2 1), .ref 95]) (sh' := sh_A) (M' := M) 3 rfl ?_
    refine ev_getI rfl rfl hy_h2 rfl ?_
    by_cases hg45 : (M h2 2) < 0 ∨ 6 ≤ (M h2 2).toNatClampNeg
    case pos => rw [if_pos hg45] at h; cases h
    rw [if_neg hg45] at h
    refine ev_iald rfl rfl hg45 ?_
    by_cases hg46 : (M h2 1) < 0 ∨ 6 ≤ (M h2 1).toNatClampNeg
    case pos => rw [if_pos hg46] at h; cases h
    rw [if_neg hg46] at h
    refine ev_iast rfl rfl hg46 ?_
    refine am_ev_go (pc' := 267) (L' := [some (.ref 94), some (.int a1), some (.ref h2)]) (st' := []) (sh' := sh_A) (M' := (ds_w M 95 (M h2 1).toNatClampNeg (M 95 (M h2 2).toNatClampNeg))) 1 rfl ?_
    cases h
    exact am_ev_ret rfl
  rw [if_neg hc44] at h
  refine ev_swo (sw_0_10 hc1 hc5 hc8 hc11 hc17 hc23 hc30 hc34 hc38 hc43 hc44) rfl (t := 267) rfl ?_
  cases h
  exact am_ev_ret rfl
def fd_84_18 (f : Nat) : Int32 → Nat → Int32 → am_M → Option (am_M) := Nat.rec (motive := fun _ => Int32 → Nat → Int32 → am_M → Option (am_M)) (fun _ _ _ _ => none) (fun _ k18 => fun x1 h3 x4 M => (fd_24 h3 M).bind fun q1 => if q1.1 ≤ x4 then (some q1.2) else ((fd_25 h3 x4 q1.2).bind fun q4 => (fd_85 x1 q4.1 q4.2).bind fun q6 => k18 x1 h3 (x4 + (1 : Int32)) q6)) f
theorem te_84_18 {L : Nat} {xs : Nat → Int32} : ∀ (f : Nat) (x1 : Int32) (h3 : Nat) (x4 : Int32) (M : am_M) (q : am_M) (d2 : Option Value), sh_bh h3 → fd_84_18 f x1 h3 x4 M = some q → am_ev (tb_P L xs) 84 18 [some (.ref 94), some (.int x1), d2, some (.ref h3), some (.int x4)] [] sh_A M (none, sh_A, q) := by
  intro f
  induction f with
  | zero => intro x1 h3 x4 M q d2 hy_h3 h; cases h
  | succ f hk18 =>
    intro x1 h3 x4 M q d2 hy_h3 h
    change ((fd_24 h3 M).bind fun q1 => if q1.1 ≤ x4 then (some q1.2) else ((fd_25 h3 x4 q1.2).bind fun q4 => (fd_85 x1 q4.1 q4.2).bind fun q6 => (fd_84_18 f) x1 h3 (x4 + (1 : Int32)) q6)) = some q at h
    refine am_ev_go (pc' := 21) (L' := [some (.ref 94), some (.int x1), d2, some (.ref h3), some (.int x4)]) (st' := [.ref h3, .int x4]) (sh' := sh_A) (M' := M) 2 rfl ?_
    obtain ⟨q1, hq2, h⟩ := Option.bind_eq_some_iff.mp h
    refine am_ev_call (mj := 24) (as := [.ref h3]) (rest := [.int x4]) (rv := some (.int q1.1)) (sh' := sh_A) (M' := q1.2) (ev_calV (na := 0) rfl rfl rfl rfl rfl hy_h3.1 rfl rfl rfl) (te_24 _ _ _ hy_h3 hq2) ?_
    show am_ev _ 84 24 [some (.ref 94), some (.int x1), d2, some (.ref h3), some (.int x4)] [.int q1.1, .int x4] sh_A q1.2 _
    refine am_ev_go (pc' := (am_br .ge x4 q1.1 44 27)) (L' := [some (.ref 94), some (.int x1), d2, some (.ref h3), some (.int x4)]) (st' := []) (sh' := sh_A) (M' := q1.2) 1 rfl ?_
    refine ev_ge (fun hc3 => ?_) (fun hc3 => ?_)
    · rw [if_pos hc3] at h
      cases h
      exact am_ev_ret rfl
    · rw [if_neg hc3] at h
      refine am_ev_go (pc' := 32) (L' := [some (.ref 94), some (.int x1), d2, some (.ref h3), some (.int x4)]) (st' := [.int x4, .ref h3, .int x1, .ref 94]) (sh' := sh_A) (M' := q1.2) 4 rfl ?_
      obtain ⟨q4, hq5, h⟩ := Option.bind_eq_some_iff.mp h
      refine am_ev_call (mj := 25) (as := [.ref h3, .int x4]) (rest := [.int x1, .ref 94]) (rv := some (.ref q4.1)) (sh' := sh_A) (M' := q4.2) (ev_calV (na := 1) rfl rfl rfl rfl rfl hy_h3.1 rfl rfl rfl) (te_25 _ _ _ _ hy_h3 hq5) ?_
      have hy_q4_1 := tr_25 hy_h3 hq5
      show am_ev _ 84 35 [some (.ref 94), some (.int x1), d2, some (.ref h3), some (.int x4)] [.ref q4.1, .int x1, .ref 94] sh_A q4.2 _
      obtain ⟨q6, hq7, h⟩ := Option.bind_eq_some_iff.mp h
      refine am_ev_call (mj := 85) (as := [.ref 94, .int x1, .ref q4.1]) (rest := []) (rv := none) (sh' := sh_A) (M' := q6) rfl (te_85 _ _ _ _ hy_q4_1 hq7) ?_
      show am_ev _ 84 38 [some (.ref 94), some (.int x1), d2, some (.ref h3), some (.int x4)] [] sh_A q6 _
      refine am_ev_go (pc' := 18) (L' := [some (.ref 94), some (.int x1), d2, some (.ref h3), some (.int (x4 + (1 : Int32)))]) (st' := []) (sh' := sh_A) (M' := q6) 2 rfl ?_
      exact hk18 _ _ _ _ _ _ hy_h3 h
/-- CountedActors$Machine.run(IILCountedActors$Behaviour;)V -/
def fd_84 (a1 : Int32) (a2 : Int32) (h3 : Nat) (M : am_M) : Option (am_M) := (fd_7 95 6 (-1 : Int32) M).bind fun q1 => if (0 : Int32) < 0 ∨ 6 ≤ (0 : Int32).toNatClampNeg then none else fd_84_18 1000 a1 h3 (0 : Int32) (ds_w q1 95 (0 : Int32).toNatClampNeg a2)
theorem te_84 {L : Nat} {xs : Nat → Int32} (a1 : Int32) (a2 : Int32) (h3 : Nat) (M : am_M) (q : am_M) (hy_h3 : sh_bh h3) (h : fd_84 a1 a2 h3 M = some q) : am_ev (tb_P L xs) 84 0 [some (.ref 94), some (.int a1), some (.int a2), some (.ref h3), none] [] sh_A M (none, sh_A, q) := by
  unfold fd_84 at h
  refine am_ev_go (pc' := 5) (L' := [some (.ref 94), some (.int a1), some (.int a2), some (.ref h3), none]) (st' := [.int (-1 : Int32), .ref 95]) (sh' := sh_A) (M' := M) 3 rfl ?_
  obtain ⟨q1, hq2, h⟩ := Option.bind_eq_some_iff.mp h
  refine am_ev_call (mj := 7) (as := [.ref 95, .int (-1 : Int32)]) (rest := []) (rv := none) (sh' := sh_A) (M' := q1) rfl (te_7 rfl (by decide) hq2) ?_
  show am_ev _ 84 8 [some (.ref 94), some (.int a1), some (.int a2), some (.ref h3), none] [] sh_A q1 _
  refine am_ev_go (pc' := 14) (L' := [some (.ref 94), some (.int a1), some (.int a2), some (.ref h3), none]) (st' := [.int a2, .int (0 : Int32), .ref 95]) (sh' := sh_A) (M' := q1) 4 rfl ?_
  by_cases hg3 : (0 : Int32) < 0 ∨ 6 ≤ (0 : Int32).toNatClampNeg
  case pos => rw [if_pos hg3] at h; cases h
  rw [if_neg hg3] at h
  refine ev_iast rfl rfl hg3 ?_
  refine am_ev_go (pc' := 18) (L' := [some (.ref 94), some (.int a1), some (.int a2), some (.ref h3), some (.int (0 : Int32))]) (st' := []) (sh' := sh_A) (M' := (ds_w q1 95 (0 : Int32).toNatClampNeg a2)) 2 rfl ?_
  exact te_84_18 1000 _ _ _ _ _ _ hy_h3 h
def fd_68_105 (x3 : Int32) (y1 : Int32) (y2 : Int32) (y3 : Int32) (M : am_M) : Option (Int32 × am_M) := (fd_82 y1 y2 y3 M).bind fun q1 => some (x3, q1)
theorem te_68_105 {L : Nat} {xs : Nat → Int32} (x3 : Int32) (y1 : Int32) (y2 : Int32) (y3 : Int32) (M : am_M) (q : Int32 × am_M) (d0 d1 d2 d4 d5 : Option Value) (h : fd_68_105 x3 y1 y2 y3 M = some q) : am_ev (tb_P L xs) 68 105 [d0, d1, d2, some (.int x3), d4, d5] [.int y3, .int y2, .int y1, .ref 79] sh_A M (some (.int q.1), sh_A, q.2) := by
  unfold fd_68_105 at h
  obtain ⟨q1, hq2, h⟩ := Option.bind_eq_some_iff.mp h
  refine am_ev_call (mj := 82) (as := [.ref 79, .int y1, .int y2, .int y3]) (rest := []) (rv := none) (sh' := sh_A) (M' := q1) rfl (te_82 _ _ _ _ _ hq2) ?_
  show am_ev _ 68 108 [d0, d1, d2, some (.int x3), d4, d5] [] sh_A q1 _
  refine am_ev_go (pc' := 109) (L' := [d0, d1, d2, some (.int x3), d4, d5]) (st' := [.int x3]) (sh' := sh_A) (M' := q1) 1 rfl ?_
  cases h
  exact am_ev_ret rfl
/-- CountedActors$Machine.takeMessage(I)I -/
def fd_68 (a1 : Int32) (M : am_M) : Option (Int32 × am_M) := (fd_69 a1 M).bind fun q1 => if q1.1 = (-1 : Int32) then (some ((-1 : Int32), q1.2)) else ((fd_70 q1.1 q1.2).bind fun q4 => (fd_71 q1.1 q4.2).bind fun q6 => (fd_72 q1.1 q6.2).bind fun q8 => (fd_73 q1.1 q8.2).bind fun q10 => if q4.1 = (0 : Int32) then ((fd_74 a1 q6.1 q8.1 q10).bind fun q14 => (fd_83 q8.1 q14).bind fun q16 => (fd_84 a1 q6.1 q16.1 q16.2).bind fun q18 => some (q4.1, q18)) else (if q4.1 = (1 : Int32) then (fd_68_105 q4.1 a1 q6.1 q8.1 q10) else (fd_68_105 q4.1 a1 q6.1 (-q8.1) q10)))
theorem te_68 {L : Nat} {xs : Nat → Int32} (a1 : Int32) (M : am_M) (q : Int32 × am_M) (h : fd_68 a1 M = some q) : am_ev (tb_P L xs) 68 0 [some (.ref 94), some (.int a1), none, none, none, none] [] sh_A M (some (.int q.1), sh_A, q.2) := by
  unfold fd_68 at h
  refine am_ev_go (pc' := 5) (L' := [some (.ref 94), some (.int a1), none, none, none, none]) (st' := [.int a1, .ref 84]) (sh' := sh_A) (M' := M) 3 rfl ?_
  obtain ⟨q1, hq2, h⟩ := Option.bind_eq_some_iff.mp h
  refine am_ev_call (mj := 69) (as := [.ref 84, .int a1]) (rest := []) (rv := some (.int q1.1)) (sh' := sh_A) (M' := q1.2) rfl (te_69 _ _ _ hq2) ?_
  show am_ev _ 68 8 [some (.ref 94), some (.int a1), none, none, none, none] [.int q1.1] sh_A q1.2 _
  refine am_ev_go (pc' := (am_br .ne q1.1 (-1 : Int32) 16 14)) (L' := [some (.ref 94), some (.int a1), some (.int q1.1), none, none, none]) (st' := []) (sh' := sh_A) (M' := q1.2) 4 rfl ?_
  refine ev_ne (fun hc3 => ?_) (fun hc3 => ?_)
  · rw [if_neg hc3] at h
    refine am_ev_go (pc' := 21) (L' := [some (.ref 94), some (.int a1), some (.int q1.1), none, none, none]) (st' := [.int q1.1, .ref 84]) (sh' := sh_A) (M' := q1.2) 3 rfl ?_
    obtain ⟨q4, hq5, h⟩ := Option.bind_eq_some_iff.mp h
    refine am_ev_call (mj := 70) (as := [.ref 84, .int q1.1]) (rest := []) (rv := some (.int q4.1)) (sh' := sh_A) (M' := q4.2) rfl (te_70 _ _ _ hq5) ?_
    show am_ev _ 68 24 [some (.ref 94), some (.int a1), some (.int q1.1), none, none, none] [.int q4.1] sh_A q4.2 _
    refine am_ev_go (pc' := 30) (L' := [some (.ref 94), some (.int a1), some (.int q1.1), some (.int q4.1), none, none]) (st' := [.int q1.1, .ref 84]) (sh' := sh_A) (M' := q4.2) 4 rfl ?_
    obtain ⟨q6, hq7, h⟩ := Option.bind_eq_some_iff.mp h
    refine am_ev_call (mj := 71) (as := [.ref 84, .int q1.1]) (rest := []) (rv := some (.int q6.1)) (sh' := sh_A) (M' := q6.2) rfl (te_71 _ _ _ hq7) ?_
    show am_ev _ 68 33 [some (.ref 94), some (.int a1), some (.int q1.1), some (.int q4.1), none, none] [.int q6.1] sh_A q6.2 _
    refine am_ev_go (pc' := 40) (L' := [some (.ref 94), some (.int a1), some (.int q1.1), some (.int q4.1), some (.int q6.1), none]) (st' := [.int q1.1, .ref 84]) (sh' := sh_A) (M' := q6.2) 4 rfl ?_
    obtain ⟨q8, hq9, h⟩ := Option.bind_eq_some_iff.mp h
    refine am_ev_call (mj := 72) (as := [.ref 84, .int q1.1]) (rest := []) (rv := some (.int q8.1)) (sh' := sh_A) (M' := q8.2) rfl (te_72 _ _ _ hq9) ?_
    show am_ev _ 68 43 [some (.ref 94), some (.int a1), some (.int q1.1), some (.int q4.1), some (.int q6.1), none] [.int q8.1] sh_A q8.2 _
    refine am_ev_go (pc' := 50) (L' := [some (.ref 94), some (.int a1), some (.int q1.1), some (.int q4.1), some (.int q6.1), some (.int q8.1)]) (st' := [.int q1.1, .ref 84]) (sh' := sh_A) (M' := q8.2) 4 rfl ?_
    obtain ⟨q10, hq11, h⟩ := Option.bind_eq_some_iff.mp h
    refine am_ev_call (mj := 73) (as := [.ref 84, .int q1.1]) (rest := []) (rv := none) (sh' := sh_A) (M' := q10) rfl (te_73 _ _ _ hq11) ?_
    show am_ev _ 68 53 [some (.ref 94), some (.int a1), some (.int q1.1), some (.int q4.1), some (.int q6.1), some (.int q8.1)] [] sh_A q10 _
    refine am_ev_go (pc' := (am_br .ne q4.1 0 85 57)) (L' := [some (.ref 94), some (.int a1), some (.int q1.1), some (.int q4.1), some (.int q6.1), some (.int q8.1)]) (st' := []) (sh' := sh_A) (M' := q10) 2 rfl ?_
    refine ev_ne (fun hc12 => ?_) (fun hc12 => ?_)
    · rw [if_neg hc12] at h
      refine am_ev_go (pc' := (am_br .ne q4.1 (1 : Int32) 102 97)) (L' := [some (.ref 94), some (.int a1), some (.int q1.1), some (.int q4.1), some (.int q6.1), some (.int q8.1)]) (st' := [.int q6.1, .int a1, .ref 79]) (sh' := sh_A) (M' := q10) 7 rfl ?_
      refine ev_ne (fun hc13 => ?_) (fun hc13 => ?_)
      · rw [if_neg hc13] at h
        refine am_ev_go (pc' := 105) (L' := [some (.ref 94), some (.int a1), some (.int q1.1), some (.int q4.1), some (.int q6.1), some (.int q8.1)]) (st' := [.int (-q8.1), .int q6.1, .int a1, .ref 79]) (sh' := sh_A) (M' := q10) 2 rfl ?_
        exact te_68_105 _ _ _ _ _ _ _ _ _ _ _ h
      · rw [if_pos hc13] at h
        refine am_ev_go (pc' := 105) (L' := [some (.ref 94), some (.int a1), some (.int q1.1), some (.int q4.1), some (.int q6.1), some (.int q8.1)]) (st' := [.int q8.1, .int q6.1, .int a1, .ref 79]) (sh' := sh_A) (M' := q10) 2 rfl ?_
        exact te_68_105 _ _ _ _ _ _ _ _ _ _ _ h
    · rw [if_pos hc12] at h
      refine am_ev_go (pc' := 63) (L' := [some (.ref 94), some (.int a1), some (.int q1.1), some (.int q4.1), some (.int q6.1), some (.int q8.1)]) (st' := [.int q8.1, .int q6.1, .int a1, .ref 94]) (sh' := sh_A) (M' := q10) 4 rfl ?_
      obtain ⟨q14, hq15, h⟩ := Option.bind_eq_some_iff.mp h
      refine am_ev_call (mj := 74) (as := [.ref 94, .int a1, .int q6.1, .int q8.1]) (rest := []) (rv := none) (sh' := sh_A) (M' := q14) rfl (te_74 _ _ _ _ _ hq15) ?_
      show am_ev _ 68 66 [some (.ref 94), some (.int a1), some (.int q1.1), some (.int q4.1), some (.int q6.1), some (.int q8.1)] [] sh_A q14 _
      refine am_ev_go (pc' := 76) (L' := [some (.ref 94), some (.int a1), some (.int q1.1), some (.int q4.1), some (.int q6.1), some (.int q8.1)]) (st' := [.int q8.1, .ref 1, .int q6.1, .int a1, .ref 94]) (sh' := sh_A) (M' := q14) 6 rfl ?_
      obtain ⟨q16, hq17, h⟩ := Option.bind_eq_some_iff.mp h
      refine am_ev_call (mj := 83) (as := [.ref 1, .int q8.1]) (rest := [.int q6.1, .int a1, .ref 94]) (rv := some (.ref q16.1)) (sh' := sh_A) (M' := q16.2) rfl (te_83 _ _ _ hq17) ?_
      have hy_q16_1 := tr_83 hq17
      show am_ev _ 68 79 [some (.ref 94), some (.int a1), some (.int q1.1), some (.int q4.1), some (.int q6.1), some (.int q8.1)] [.ref q16.1, .int q6.1, .int a1, .ref 94] sh_A q16.2 _
      obtain ⟨q18, hq19, h⟩ := Option.bind_eq_some_iff.mp h
      refine am_ev_call (mj := 84) (as := [.ref 94, .int a1, .int q6.1, .ref q16.1]) (rest := []) (rv := none) (sh' := sh_A) (M' := q18) rfl (te_84 _ _ _ _ _ hy_q16_1 hq19) ?_
      show am_ev _ 68 82 [some (.ref 94), some (.int a1), some (.int q1.1), some (.int q4.1), some (.int q6.1), some (.int q8.1)] [] sh_A q18 _
      refine am_ev_go (pc' := 109) (L' := [some (.ref 94), some (.int a1), some (.int q1.1), some (.int q4.1), some (.int q6.1), some (.int q8.1)]) (st' := [.int q4.1]) (sh' := sh_A) (M' := q18) 2 rfl ?_
      cases h
      exact am_ev_ret rfl
  · rw [if_pos hc3] at h
    refine am_ev_go (pc' := 15) (L' := [some (.ref 94), some (.int a1), some (.int q1.1), none, none, none]) (st' := [.int (-1 : Int32)]) (sh' := sh_A) (M' := q1.2) 1 rfl ?_
    cases h
    exact am_ev_ret rfl
/-- CountedActors.step(I)I -/
def fd_67 (a1 : Int32) (M : am_M) : Option (Int32 × am_M) := (fd_63 a1 M).bind fun q1 => if q1.1 = (0 : Int32) then (some ((-1 : Int32), q1.2)) else ((fd_68 a1 q1.2).bind fun q4 => some (q4.1, q4.2))
theorem te_67 {L : Nat} {xs : Nat → Int32} (a1 : Int32) (M : am_M) (q : Int32 × am_M) (h : fd_67 a1 M = some q) : am_ev (tb_P L xs) 67 0 [some (.ref 0), some (.int a1)] [] sh_A M (some (.int q.1), sh_A, q.2) := by
  unfold fd_67 at h
  refine am_ev_go (pc' := 2) (L' := [some (.ref 0), some (.int a1)]) (st' := [.int a1, .ref 0]) (sh' := sh_A) (M' := M) 2 rfl ?_
  obtain ⟨q1, hq2, h⟩ := Option.bind_eq_some_iff.mp h
  refine am_ev_call (mj := 63) (as := [.ref 0, .int a1]) (rest := []) (rv := some (.int q1.1)) (sh' := sh_A) (M' := q1.2) rfl (te_63 _ _ _ hq2) ?_
  show am_ev _ 67 5 [some (.ref 0), some (.int a1)] [.int q1.1] sh_A q1.2 _
  refine am_ev_go (pc' := (am_br .eq q1.1 0 19 8)) (L' := [some (.ref 0), some (.int a1)]) (st' := []) (sh' := sh_A) (M' := q1.2) 1 rfl ?_
  refine ev_eq (fun hc3 => ?_) (fun hc3 => ?_)
  · rw [if_pos hc3] at h
    refine am_ev_go (pc' := 20) (L' := [some (.ref 0), some (.int a1)]) (st' := [.int (-1 : Int32)]) (sh' := sh_A) (M' := q1.2) 1 rfl ?_
    cases h
    exact am_ev_ret rfl
  · rw [if_neg hc3] at h
    refine am_ev_go (pc' := 13) (L' := [some (.ref 0), some (.int a1)]) (st' := [.int a1, .ref 94]) (sh' := sh_A) (M' := q1.2) 3 rfl ?_
    obtain ⟨q4, hq5, h⟩ := Option.bind_eq_some_iff.mp h
    refine am_ev_call (mj := 68) (as := [.ref 94, .int a1]) (rest := []) (rv := some (.int q4.1)) (sh' := sh_A) (M' := q4.2) rfl (te_68 _ _ _ hq5) ?_
    show am_ev _ 67 16 [some (.ref 0), some (.int a1)] [.int q4.1] sh_A q4.2 _
    refine am_ev_go (pc' := 20) (L' := [some (.ref 0), some (.int a1)]) (st' := [.int q4.1]) (sh' := sh_A) (M' := q4.2) 1 rfl ?_
    cases h
    exact am_ev_ret rfl
def fd_105_2 (f : Nat) : Int32 → Int32 → am_M → Option (am_M) := Nat.rec (motive := fun _ => Int32 → Int32 → am_M → Option (am_M)) (fun _ _ _ => none) (fun _ k2 => fun x1 x2 M => if (6 : Int32) ≤ x2 then (some M) else ((fd_91 x1 M).bind fun q2 => (fd_79 q2.1 x2 q2.2).bind fun q4 => (fd_77 q4.1 x2 q4.2).bind fun q6 => k2 x1 (x2 + (1 : Int32)) q6)) f
theorem te_105_2 {L : Nat} {xs : Nat → Int32} : ∀ (f : Nat) (x1 : Int32) (x2 : Int32) (M : am_M) (q : am_M), fd_105_2 f x1 x2 M = some q → am_ev (tb_P L xs) 105 2 [some (.ref 94), some (.int x1), some (.int x2)] [] sh_A M (none, sh_A, q) := by
  intro f
  induction f with
  | zero => intro x1 x2 M q h; cases h
  | succ f hk2 =>
    intro x1 x2 M q h
    change (if (6 : Int32) ≤ x2 then (some M) else ((fd_91 x1 M).bind fun q2 => (fd_79 q2.1 x2 q2.2).bind fun q4 => (fd_77 q4.1 x2 q4.2).bind fun q6 => (fd_105_2 f) x1 (x2 + (1 : Int32)) q6)) = some q at h
    refine am_ev_go (pc' := (am_br .ge x2 (6 : Int32) 34 8)) (L' := [some (.ref 94), some (.int x1), some (.int x2)]) (st' := []) (sh' := sh_A) (M' := M) 3 rfl ?_
    refine ev_ge (fun hc1 => ?_) (fun hc1 => ?_)
    · rw [if_pos hc1] at h
      cases h
      exact am_ev_ret rfl
    · rw [if_neg hc1] at h
      refine am_ev_go (pc' := 17) (L' := [some (.ref 94), some (.int x1), some (.int x2)]) (st' := [.int x1, .ref 79, .ref 89]) (sh' := sh_A) (M' := M) 5 rfl ?_
      obtain ⟨q2, hq3, h⟩ := Option.bind_eq_some_iff.mp h
      refine am_ev_call (mj := 91) (as := [.int x1]) (rest := [.ref 79, .ref 89]) (rv := some (.int q2.1)) (sh' := sh_A) (M' := q2.2) rfl (te_91 _ _ _ hq3) ?_
      show am_ev _ 105 20 [some (.ref 94), some (.int x1), some (.int x2)] [.int q2.1, .ref 79, .ref 89] sh_A q2.2 _
      refine am_ev_go (pc' := 21) (L' := [some (.ref 94), some (.int x1), some (.int x2)]) (st' := [.int x2, .int q2.1, .ref 79, .ref 89]) (sh' := sh_A) (M' := q2.2) 1 rfl ?_
      obtain ⟨q4, hq5, h⟩ := Option.bind_eq_some_iff.mp h
      refine am_ev_call (mj := 79) (as := [.ref 79, .int q2.1, .int x2]) (rest := [.ref 89]) (rv := some (.int q4.1)) (sh' := sh_A) (M' := q4.2) rfl (te_79 _ _ _ _ hq5) ?_
      show am_ev _ 105 24 [some (.ref 94), some (.int x1), some (.int x2)] [.int q4.1, .ref 89] sh_A q4.2 _
      refine am_ev_go (pc' := 25) (L' := [some (.ref 94), some (.int x1), some (.int x2)]) (st' := [.int x2, .int q4.1, .ref 89]) (sh' := sh_A) (M' := q4.2) 1 rfl ?_
      obtain ⟨q6, hq7, h⟩ := Option.bind_eq_some_iff.mp h
      refine am_ev_call (mj := 77) (as := [.ref 89, .int q4.1, .int x2]) (rest := []) (rv := none) (sh' := sh_A) (M' := q6) rfl (te_77 _ _ _ _ hq7) ?_
      show am_ev _ 105 28 [some (.ref 94), some (.int x1), some (.int x2)] [] sh_A q6 _
      refine am_ev_go (pc' := 2) (L' := [some (.ref 94), some (.int x1), some (.int (x2 + (1 : Int32)))]) (st' := []) (sh' := sh_A) (M' := q6) 2 rfl ?_
      exact hk2 _ _ _ _ h
/-- CountedActors$Machine.meetFields(I)V -/
def fd_105 (a1 : Int32) (M : am_M) : Option (am_M) := fd_105_2 1000 a1 (0 : Int32) M
theorem te_105 {L : Nat} {xs : Nat → Int32} (a1 : Int32) (M : am_M) (q : am_M) (h : fd_105 a1 M = some q) : am_ev (tb_P L xs) 105 0 [some (.ref 94), some (.int a1), none] [] sh_A M (none, sh_A, q) := by
  unfold fd_105 at h
  refine am_ev_go (pc' := 2) (L' := [some (.ref 94), some (.int a1), some (.int (0 : Int32))]) (st' := []) (sh' := sh_A) (M' := M) 2 rfl ?_
  exact te_105_2 1000 _ _ _ _ h
/-- CountedActors$Heap.exists(I)Z -/
def fd_107 (a1 : Int32) (M : am_M) : Option (Int32 × am_M) := if a1 < (0 : Int32) then (some ((0 : Int32), M)) else (if (16 : Int32) ≤ a1 then (some ((0 : Int32), M)) else (if a1 < 0 ∨ 16 ≤ a1.toNatClampNeg then none else if (M 80 a1.toNatClampNeg) = (-1 : Int32) then (some ((0 : Int32), M)) else (some ((1 : Int32), M))))
theorem te_107 {L : Nat} {xs : Nat → Int32} (a1 : Int32) (M : am_M) (q : Int32 × am_M) (h : fd_107 a1 M = some q) : am_ev (tb_P L xs) 107 0 [some (.ref 79), some (.int a1)] [] sh_A M (some (.int q.1), sh_A, q.2) := by
  unfold fd_107 at h
  refine am_ev_go (pc' := (am_br .lt a1 0 24 4)) (L' := [some (.ref 79), some (.int a1)]) (st' := []) (sh' := sh_A) (M' := M) 2 rfl ?_
  refine ev_lt (fun hc1 => ?_) (fun hc1 => ?_)
  · rw [if_pos hc1] at h
    refine am_ev_go (pc' := 25) (L' := [some (.ref 79), some (.int a1)]) (st' := [.int (0 : Int32)]) (sh' := sh_A) (M' := M) 1 rfl ?_
    cases h
    exact am_ev_ret rfl
  · rw [if_neg hc1] at h
    refine am_ev_go (pc' := (am_br .ge a1 (16 : Int32) 24 10)) (L' := [some (.ref 79), some (.int a1)]) (st' := []) (sh' := sh_A) (M' := M) 3 rfl ?_
    refine ev_ge (fun hc2 => ?_) (fun hc2 => ?_)
    · rw [if_pos hc2] at h
      refine am_ev_go (pc' := 25) (L' := [some (.ref 79), some (.int a1)]) (st' := [.int (0 : Int32)]) (sh' := sh_A) (M' := M) 1 rfl ?_
      cases h
      exact am_ev_ret rfl
    · rw [if_neg hc2] at h
      refine am_ev_go (pc' := 15) (L' := [some (.ref 79), some (.int a1)]) (st' := [.int a1, .ref 80]) (sh' := sh_A) (M' := M) 3 rfl ?_
      by_cases hg3 : a1 < 0 ∨ 16 ≤ a1.toNatClampNeg
      case pos => rw [if_pos hg3] at h; cases h
      rw [if_neg hg3] at h
      refine ev_iald rfl rfl hg3 ?_
      refine am_ev_go (pc' := (am_br .eq (M 80 a1.toNatClampNeg) (-1 : Int32) 24 20)) (L' := [some (.ref 79), some (.int a1)]) (st' := []) (sh' := sh_A) (M' := M) 2 rfl ?_
      refine ev_eq (fun hc4 => ?_) (fun hc4 => ?_)
      · rw [if_pos hc4] at h
        refine am_ev_go (pc' := 25) (L' := [some (.ref 79), some (.int a1)]) (st' := [.int (0 : Int32)]) (sh' := sh_A) (M' := M) 1 rfl ?_
        cases h
        exact am_ev_ret rfl
      · rw [if_neg hc4] at h
        refine am_ev_go (pc' := 25) (L' := [some (.ref 79), some (.int a1)]) (st' := [.int (1 : Int32)]) (sh' := sh_A) (M' := M) 2 rfl ?_
        cases h
        exact am_ev_ret rfl
/-- CountedActors$Machine.isUnkept(I)Z -/
def fd_106 (a1 : Int32) (M : am_M) : Option (Int32 × am_M) := (fd_107 a1 M).bind fun q1 => if q1.1 = (0 : Int32) then (some ((0 : Int32), q1.2)) else ((fd_80 a1 q1.2).bind fun q4 => if q4.1 = (0 : Int32) then (some ((1 : Int32), q4.2)) else (some ((0 : Int32), q4.2)))
theorem te_106 {L : Nat} {xs : Nat → Int32} (a1 : Int32) (M : am_M) (q : Int32 × am_M) (h : fd_106 a1 M = some q) : am_ev (tb_P L xs) 106 0 [some (.ref 94), some (.int a1)] [] sh_A M (some (.int q.1), sh_A, q.2) := by
  unfold fd_106 at h
  refine am_ev_go (pc' := 5) (L' := [some (.ref 94), some (.int a1)]) (st' := [.int a1, .ref 79]) (sh' := sh_A) (M' := M) 3 rfl ?_
  obtain ⟨q1, hq2, h⟩ := Option.bind_eq_some_iff.mp h
  refine am_ev_call (mj := 107) (as := [.ref 79, .int a1]) (rest := []) (rv := some (.int q1.1)) (sh' := sh_A) (M' := q1.2) rfl (te_107 _ _ _ hq2) ?_
  show am_ev _ 106 8 [some (.ref 94), some (.int a1)] [.int q1.1] sh_A q1.2 _
  refine am_ev_go (pc' := (am_br .eq q1.1 0 26 11)) (L' := [some (.ref 94), some (.int a1)]) (st' := []) (sh' := sh_A) (M' := q1.2) 1 rfl ?_
  refine ev_eq (fun hc3 => ?_) (fun hc3 => ?_)
  · rw [if_pos hc3] at h
    refine am_ev_go (pc' := 27) (L' := [some (.ref 94), some (.int a1)]) (st' := [.int (0 : Int32)]) (sh' := sh_A) (M' := q1.2) 1 rfl ?_
    cases h
    exact am_ev_ret rfl
  · rw [if_neg hc3] at h
    refine am_ev_go (pc' := 16) (L' := [some (.ref 94), some (.int a1)]) (st' := [.int a1, .ref 89]) (sh' := sh_A) (M' := q1.2) 3 rfl ?_
    obtain ⟨q4, hq5, h⟩ := Option.bind_eq_some_iff.mp h
    refine am_ev_call (mj := 80) (as := [.ref 89, .int a1]) (rest := []) (rv := some (.int q4.1)) (sh' := sh_A) (M' := q4.2) rfl (te_80 _ _ _ hq5) ?_
    show am_ev _ 106 19 [some (.ref 94), some (.int a1)] [.int q4.1] sh_A q4.2 _
    refine am_ev_go (pc' := (am_br .ne q4.1 0 26 22)) (L' := [some (.ref 94), some (.int a1)]) (st' := []) (sh' := sh_A) (M' := q4.2) 1 rfl ?_
    refine ev_ne (fun hc6 => ?_) (fun hc6 => ?_)
    · rw [if_neg hc6] at h
      refine am_ev_go (pc' := 27) (L' := [some (.ref 94), some (.int a1)]) (st' := [.int (0 : Int32)]) (sh' := sh_A) (M' := q4.2) 1 rfl ?_
      cases h
      exact am_ev_ret rfl
    · rw [if_pos hc6] at h
      refine am_ev_go (pc' := 27) (L' := [some (.ref 94), some (.int a1)]) (st' := [.int (1 : Int32)]) (sh' := sh_A) (M' := q4.2) 2 rfl ?_
      cases h
      exact am_ev_ret rfl
def fd_108_32 (k9 : Int32 → Int32 → am_M → Option (am_M)) (x1 : Int32) (x2 : Int32) (M : am_M) : Option (am_M) := k9 x1 (x2 + (1 : Int32)) M
theorem te_108_32 {L : Nat} {xs : Nat → Int32} {k9 : Int32 → Int32 → am_M → Option (am_M)} (hk9 : ∀ (x1 : Int32) (x2 : Int32) (M : am_M) (q : am_M), k9 x1 x2 M = some q → am_ev (tb_P L xs) 108 9 [some (.ref 79), some (.int x1), some (.int x2)] [] sh_A M (none, sh_A, q)) (x1 : Int32) (x2 : Int32) (M : am_M) (q : am_M) (h : fd_108_32 k9 x1 x2 M = some q) : am_ev (tb_P L xs) 108 32 [some (.ref 79), some (.int x1), some (.int x2)] [] sh_A M (none, sh_A, q) := by
  unfold fd_108_32 at h
  refine am_ev_go (pc' := 9) (L' := [some (.ref 79), some (.int x1), some (.int (x2 + (1 : Int32)))]) (st' := []) (sh' := sh_A) (M' := M) 2 rfl ?_
  exact hk9 _ _ _ _ h
def fd_108_9 (f : Nat) : Int32 → Int32 → am_M → Option (am_M) := Nat.rec (motive := fun _ => Int32 → Int32 → am_M → Option (am_M)) (fun _ _ _ => none) (fun _ k9 => fun x1 x2 M => if (96 : Int32) ≤ x2 then (some M) else (if x2 < 0 ∨ 120 ≤ x2.toNatClampNeg then none else if (M 82 x2.toNatClampNeg) = x1 then (if x2 < 0 ∨ 120 ≤ x2.toNatClampNeg then none else fd_108_32 k9 x1 x2 (ds_w M 82 x2.toNatClampNeg (-1 : Int32))) else (fd_108_32 k9 x1 x2 M))) f
theorem te_108_9 {L : Nat} {xs : Nat → Int32} : ∀ (f : Nat) (x1 : Int32) (x2 : Int32) (M : am_M) (q : am_M), fd_108_9 f x1 x2 M = some q → am_ev (tb_P L xs) 108 9 [some (.ref 79), some (.int x1), some (.int x2)] [] sh_A M (none, sh_A, q) := by
  intro f
  induction f with
  | zero => intro x1 x2 M q h; cases h
  | succ f hk9 =>
    intro x1 x2 M q h
    change (if (96 : Int32) ≤ x2 then (some M) else (if x2 < 0 ∨ 120 ≤ x2.toNatClampNeg then none else if (M 82 x2.toNatClampNeg) = x1 then (if x2 < 0 ∨ 120 ≤ x2.toNatClampNeg then none else fd_108_32 (fd_108_9 f) x1 x2 (ds_w M 82 x2.toNatClampNeg (-1 : Int32))) else (fd_108_32 (fd_108_9 f) x1 x2 M))) = some q at h
    refine am_ev_go (pc' := (am_br .ge x2 (96 : Int32) 38 15)) (L' := [some (.ref 79), some (.int x1), some (.int x2)]) (st' := []) (sh' := sh_A) (M' := M) 3 rfl ?_
    refine ev_ge (fun hc1 => ?_) (fun hc1 => ?_)
    · rw [if_pos hc1] at h
      cases h
      exact am_ev_ret rfl
    · rw [if_neg hc1] at h
      refine am_ev_go (pc' := 20) (L' := [some (.ref 79), some (.int x1), some (.int x2)]) (st' := [.int x2, .ref 82]) (sh' := sh_A) (M' := M) 3 rfl ?_
      by_cases hg2 : x2 < 0 ∨ 120 ≤ x2.toNatClampNeg
      case pos => rw [if_pos hg2] at h; cases h
      rw [if_neg hg2] at h
      refine ev_iald rfl rfl hg2 ?_
      refine am_ev_go (pc' := (am_br .ne (M 82 x2.toNatClampNeg) x1 32 25)) (L' := [some (.ref 79), some (.int x1), some (.int x2)]) (st' := []) (sh' := sh_A) (M' := M) 2 rfl ?_
      refine ev_ne (fun hc3 => ?_) (fun hc3 => ?_)
      · rw [if_neg hc3] at h
        exact te_108_32 hk9 _ _ _ _ h
      · rw [if_pos hc3] at h
        refine am_ev_go (pc' := 31) (L' := [some (.ref 79), some (.int x1), some (.int x2)]) (st' := [.int (-1 : Int32), .int x2, .ref 82]) (sh' := sh_A) (M' := M) 4 rfl ?_
        by_cases hg4 : x2 < 0 ∨ 120 ≤ x2.toNatClampNeg
        case pos => rw [if_pos hg4] at h; cases h
        rw [if_neg hg4] at h
        refine ev_iast rfl rfl hg4 ?_
        exact te_108_32 hk9 _ _ _ _ h
/-- CountedActors$Heap.free(I)V -/
def fd_108 (a1 : Int32) (M : am_M) : Option (am_M) := if a1 < 0 ∨ 16 ≤ a1.toNatClampNeg then none else fd_108_9 1000 a1 (0 : Int32) (ds_w M 80 a1.toNatClampNeg (-1 : Int32))
theorem te_108 {L : Nat} {xs : Nat → Int32} (a1 : Int32) (M : am_M) (q : am_M) (h : fd_108 a1 M = some q) : am_ev (tb_P L xs) 108 0 [some (.ref 79), some (.int a1), none] [] sh_A M (none, sh_A, q) := by
  unfold fd_108 at h
  refine am_ev_go (pc' := 6) (L' := [some (.ref 79), some (.int a1), none]) (st' := [.int (-1 : Int32), .int a1, .ref 80]) (sh' := sh_A) (M' := M) 4 rfl ?_
  by_cases hg1 : a1 < 0 ∨ 16 ≤ a1.toNatClampNeg
  case pos => rw [if_pos hg1] at h; cases h
  rw [if_neg hg1] at h
  refine ev_iast rfl rfl hg1 ?_
  refine am_ev_go (pc' := 9) (L' := [some (.ref 79), some (.int a1), some (.int (0 : Int32))]) (st' := []) (sh' := sh_A) (M' := (ds_w M 80 a1.toNatClampNeg (-1 : Int32))) 2 rfl ?_
  exact te_108_9 1000 _ _ _ _ h
/-- CountedActors$Machine.giveBack(II)V -/
def fd_109 (a1 : Int32) (a2 : Int32) (M : am_M) : Option (am_M) := (fd_65 M).bind fun q1 => if (1 : Int32) ≤ q1.1 then ((fd_101 a1 a2 q1.2).bind fun q4 => (fd_81 a2 q4.2).bind fun q6 => (fd_66 (2 : Int32) q6.1 a2 q4.1 q6.2).bind fun q8 => (fd_82 a1 a2 (-q4.1) q8).bind fun q10 => some q10) else (some q1.2)
theorem te_109 {L : Nat} {xs : Nat → Int32} (a1 : Int32) (a2 : Int32) (M : am_M) (q : am_M) (h : fd_109 a1 a2 M = some q) : am_ev (tb_P L xs) 109 0 [some (.ref 94), some (.int a1), some (.int a2), none] [] sh_A M (none, sh_A, q) := by
  unfold fd_109 at h
  refine am_ev_go (pc' := 4) (L' := [some (.ref 94), some (.int a1), some (.int a2), none]) (st' := [.ref 84]) (sh' := sh_A) (M' := M) 2 rfl ?_
  obtain ⟨q1, hq2, h⟩ := Option.bind_eq_some_iff.mp h
  refine am_ev_call (mj := 65) (as := [.ref 84]) (rest := []) (rv := some (.int q1.1)) (sh' := sh_A) (M' := q1.2) rfl (te_65 _ _ hq2) ?_
  show am_ev _ 109 7 [some (.ref 94), some (.int a1), some (.int a2), none] [.int q1.1] sh_A q1.2 _
  refine am_ev_go (pc' := (am_br .ge q1.1 (1 : Int32) 12 11)) (L' := [some (.ref 94), some (.int a1), some (.int a2), none]) (st' := []) (sh' := sh_A) (M' := q1.2) 2 rfl ?_
  refine ev_ge (fun hc3 => ?_) (fun hc3 => ?_)
  · rw [if_pos hc3] at h
    refine am_ev_go (pc' := 18) (L' := [some (.ref 94), some (.int a1), some (.int a2), none]) (st' := [.int a2, .int a1, .ref 79]) (sh' := sh_A) (M' := q1.2) 4 rfl ?_
    obtain ⟨q4, hq5, h⟩ := Option.bind_eq_some_iff.mp h
    refine am_ev_call (mj := 101) (as := [.ref 79, .int a1, .int a2]) (rest := []) (rv := some (.int q4.1)) (sh' := sh_A) (M' := q4.2) rfl (te_101 _ _ _ _ hq5) ?_
    show am_ev _ 109 21 [some (.ref 94), some (.int a1), some (.int a2), none] [.int q4.1] sh_A q4.2 _
    refine am_ev_go (pc' := 32) (L' := [some (.ref 94), some (.int a1), some (.int a2), some (.int q4.1)]) (st' := [.int a2, .ref 79, .int (2 : Int32), .ref 84]) (sh' := sh_A) (M' := q4.2) 7 rfl ?_
    obtain ⟨q6, hq7, h⟩ := Option.bind_eq_some_iff.mp h
    refine am_ev_call (mj := 81) (as := [.ref 79, .int a2]) (rest := [.int (2 : Int32), .ref 84]) (rv := some (.int q6.1)) (sh' := sh_A) (M' := q6.2) rfl (te_81 _ _ _ hq7) ?_
    show am_ev _ 109 35 [some (.ref 94), some (.int a1), some (.int a2), some (.int q4.1)] [.int q6.1, .int (2 : Int32), .ref 84] sh_A q6.2 _
    refine am_ev_go (pc' := 37) (L' := [some (.ref 94), some (.int a1), some (.int a2), some (.int q4.1)]) (st' := [.int q4.1, .int a2, .int q6.1, .int (2 : Int32), .ref 84]) (sh' := sh_A) (M' := q6.2) 2 rfl ?_
    obtain ⟨q8, hq9, h⟩ := Option.bind_eq_some_iff.mp h
    refine am_ev_call (mj := 66) (as := [.ref 84, .int (2 : Int32), .int q6.1, .int a2, .int q4.1]) (rest := []) (rv := none) (sh' := sh_A) (M' := q8) rfl (te_66 _ _ _ _ _ _ hq9) ?_
    show am_ev _ 109 40 [some (.ref 94), some (.int a1), some (.int a2), some (.int q4.1)] [] sh_A q8 _
    refine am_ev_go (pc' := 48) (L' := [some (.ref 94), some (.int a1), some (.int a2), some (.int q4.1)]) (st' := [.int (-q4.1), .int a2, .int a1, .ref 79]) (sh' := sh_A) (M' := q8) 6 rfl ?_
    obtain ⟨q10, hq11, h⟩ := Option.bind_eq_some_iff.mp h
    refine am_ev_call (mj := 82) (as := [.ref 79, .int a1, .int a2, .int (-q4.1)]) (rest := []) (rv := none) (sh' := sh_A) (M' := q10) rfl (te_82 _ _ _ _ _ hq11) ?_
    show am_ev _ 109 51 [some (.ref 94), some (.int a1), some (.int a2), some (.int q4.1)] [] sh_A q10 _
    cases h
    exact am_ev_ret rfl
  · rw [if_neg hc3] at h
    cases h
    exact am_ev_ret rfl
def fd_104_124 (k80 : Int32 → Int32 → Int32 → am_M → Option (Int32 × am_M)) (x1 : Int32) (x2 : Int32) (x3 : Int32) (M : am_M) : Option (Int32 × am_M) := k80 x1 x2 (x3 + (1 : Int32)) M
theorem te_104_124 {L : Nat} {xs : Nat → Int32} {k80 : Int32 → Int32 → Int32 → am_M → Option (Int32 × am_M)} (hk80 : ∀ (x1 : Int32) (x2 : Int32) (x3 : Int32) (M : am_M) (q : Int32 × am_M), k80 x1 x2 x3 M = some q → am_ev (tb_P L xs) 104 80 [some (.ref 94), some (.int x1), some (.int x2), some (.int x3)] [] sh_A M (some (.int q.1), sh_A, q.2)) (x1 : Int32) (x2 : Int32) (x3 : Int32) (M : am_M) (q : Int32 × am_M) (h : fd_104_124 k80 x1 x2 x3 M = some q) : am_ev (tb_P L xs) 104 124 [some (.ref 94), some (.int x1), some (.int x2), some (.int x3)] [] sh_A M (some (.int q.1), sh_A, q.2) := by
  unfold fd_104_124 at h
  refine am_ev_go (pc' := 80) (L' := [some (.ref 94), some (.int x1), some (.int x2), some (.int (x3 + (1 : Int32)))]) (st' := []) (sh' := sh_A) (M' := M) 2 rfl ?_
  exact hk80 _ _ _ _ _ h
def fd_104_80 (f : Nat) : Int32 → Int32 → Int32 → am_M → Option (Int32 × am_M) := Nat.rec (motive := fun _ => Int32 → Int32 → Int32 → am_M → Option (Int32 × am_M)) (fun _ _ _ _ => none) (fun _ k80 => fun x1 x2 x3 M => if (16 : Int32) ≤ x3 then (some (x2, M)) else ((fd_106 x3 M).bind fun q2 => if q2.1 = (0 : Int32) then (fd_104_124 k80 x1 x2 x3 q2.2) else ((fd_81 x3 q2.2).bind fun q5 => if q5.1 = x1 then (fd_104_124 k80 x1 x2 x3 q5.2) else ((fd_101 x1 x3 q5.2).bind fun q8 => if q8.1 = (0 : Int32) then (fd_104_124 k80 x1 x2 x3 q8.2) else ((fd_109 x1 x3 q8.2).bind fun q11 => fd_104_124 k80 x1 x2 x3 q11))))) f
theorem te_104_80 {L : Nat} {xs : Nat → Int32} : ∀ (f : Nat) (x1 : Int32) (x2 : Int32) (x3 : Int32) (M : am_M) (q : Int32 × am_M), fd_104_80 f x1 x2 x3 M = some q → am_ev (tb_P L xs) 104 80 [some (.ref 94), some (.int x1), some (.int x2), some (.int x3)] [] sh_A M (some (.int q.1), sh_A, q.2) := by
  intro f
  induction f with
  | zero => intro x1 x2 x3 M q h; cases h
  | succ f hk80 =>
    intro x1 x2 x3 M q h
    change (if (16 : Int32) ≤ x3 then (some (x2, M)) else ((fd_106 x3 M).bind fun q2 => if q2.1 = (0 : Int32) then (fd_104_124 (fd_104_80 f) x1 x2 x3 q2.2) else ((fd_81 x3 q2.2).bind fun q5 => if q5.1 = x1 then (fd_104_124 (fd_104_80 f) x1 x2 x3 q5.2) else ((fd_101 x1 x3 q5.2).bind fun q8 => if q8.1 = (0 : Int32) then (fd_104_124 (fd_104_80 f) x1 x2 x3 q8.2) else ((fd_109 x1 x3 q8.2).bind fun q11 => fd_104_124 (fd_104_80 f) x1 x2 x3 q11))))) = some q at h
    refine am_ev_go (pc' := (am_br .ge x3 (16 : Int32) 130 86)) (L' := [some (.ref 94), some (.int x1), some (.int x2), some (.int x3)]) (st' := []) (sh' := sh_A) (M' := M) 3 rfl ?_
    refine ev_ge (fun hc1 => ?_) (fun hc1 => ?_)
    · rw [if_pos hc1] at h
      refine am_ev_go (pc' := 131) (L' := [some (.ref 94), some (.int x1), some (.int x2), some (.int x3)]) (st' := [.int x2]) (sh' := sh_A) (M' := M) 1 rfl ?_
      cases h
      exact am_ev_ret rfl
    · rw [if_neg hc1] at h
      refine am_ev_go (pc' := 88) (L' := [some (.ref 94), some (.int x1), some (.int x2), some (.int x3)]) (st' := [.int x3, .ref 94]) (sh' := sh_A) (M' := M) 2 rfl ?_
      obtain ⟨q2, hq3, h⟩ := Option.bind_eq_some_iff.mp h
      refine am_ev_call (mj := 106) (as := [.ref 94, .int x3]) (rest := []) (rv := some (.int q2.1)) (sh' := sh_A) (M' := q2.2) rfl (te_106 _ _ _ hq3) ?_
      show am_ev _ 104 91 [some (.ref 94), some (.int x1), some (.int x2), some (.int x3)] [.int q2.1] sh_A q2.2 _
      refine am_ev_go (pc' := (am_br .eq q2.1 0 124 94)) (L' := [some (.ref 94), some (.int x1), some (.int x2), some (.int x3)]) (st' := []) (sh' := sh_A) (M' := q2.2) 1 rfl ?_
      refine ev_eq (fun hc4 => ?_) (fun hc4 => ?_)
      · rw [if_pos hc4] at h
        exact te_104_124 hk80 _ _ _ _ _ h
      · rw [if_neg hc4] at h
        refine am_ev_go (pc' := 99) (L' := [some (.ref 94), some (.int x1), some (.int x2), some (.int x3)]) (st' := [.int x3, .ref 79]) (sh' := sh_A) (M' := q2.2) 3 rfl ?_
        obtain ⟨q5, hq6, h⟩ := Option.bind_eq_some_iff.mp h
        refine am_ev_call (mj := 81) (as := [.ref 79, .int x3]) (rest := []) (rv := some (.int q5.1)) (sh' := sh_A) (M' := q5.2) rfl (te_81 _ _ _ hq6) ?_
        show am_ev _ 104 102 [some (.ref 94), some (.int x1), some (.int x2), some (.int x3)] [.int q5.1] sh_A q5.2 _
        refine am_ev_go (pc' := (am_br .eq q5.1 x1 124 106)) (L' := [some (.ref 94), some (.int x1), some (.int x2), some (.int x3)]) (st' := []) (sh' := sh_A) (M' := q5.2) 2 rfl ?_
        refine ev_eq (fun hc7 => ?_) (fun hc7 => ?_)
        · rw [if_pos hc7] at h
          exact te_104_124 hk80 _ _ _ _ _ h
        · rw [if_neg hc7] at h
          refine am_ev_go (pc' := 112) (L' := [some (.ref 94), some (.int x1), some (.int x2), some (.int x3)]) (st' := [.int x3, .int x1, .ref 79]) (sh' := sh_A) (M' := q5.2) 4 rfl ?_
          obtain ⟨q8, hq9, h⟩ := Option.bind_eq_some_iff.mp h
          refine am_ev_call (mj := 101) (as := [.ref 79, .int x1, .int x3]) (rest := []) (rv := some (.int q8.1)) (sh' := sh_A) (M' := q8.2) rfl (te_101 _ _ _ _ hq9) ?_
          show am_ev _ 104 115 [some (.ref 94), some (.int x1), some (.int x2), some (.int x3)] [.int q8.1] sh_A q8.2 _
          refine am_ev_go (pc' := (am_br .eq q8.1 0 124 118)) (L' := [some (.ref 94), some (.int x1), some (.int x2), some (.int x3)]) (st' := []) (sh' := sh_A) (M' := q8.2) 1 rfl ?_
          refine ev_eq (fun hc10 => ?_) (fun hc10 => ?_)
          · rw [if_pos hc10] at h
            exact te_104_124 hk80 _ _ _ _ _ h
          · rw [if_neg hc10] at h
            refine am_ev_go (pc' := 121) (L' := [some (.ref 94), some (.int x1), some (.int x2), some (.int x3)]) (st' := [.int x3, .int x1, .ref 94]) (sh' := sh_A) (M' := q8.2) 3 rfl ?_
            obtain ⟨q11, hq12, h⟩ := Option.bind_eq_some_iff.mp h
            refine am_ev_call (mj := 109) (as := [.ref 94, .int x1, .int x3]) (rest := []) (rv := none) (sh' := sh_A) (M' := q11) rfl (te_109 _ _ _ _ hq12) ?_
            show am_ev _ 104 124 [some (.ref 94), some (.int x1), some (.int x2), some (.int x3)] [] sh_A q11 _
            exact te_104_124 hk80 _ _ _ _ _ h
def fd_104_72 (k23 : Int32 → Int32 → Int32 → am_M → Option (Int32 × am_M)) (x1 : Int32) (x2 : Int32) (x3 : Int32) (M : am_M) : Option (Int32 × am_M) := k23 x1 x2 (x3 + (1 : Int32)) M
theorem te_104_72 {L : Nat} {xs : Nat → Int32} {k23 : Int32 → Int32 → Int32 → am_M → Option (Int32 × am_M)} (hk23 : ∀ (x1 : Int32) (x2 : Int32) (x3 : Int32) (M : am_M) (q : Int32 × am_M), k23 x1 x2 x3 M = some q → am_ev (tb_P L xs) 104 23 [some (.ref 94), some (.int x1), some (.int x2), some (.int x3)] [] sh_A M (some (.int q.1), sh_A, q.2)) (x1 : Int32) (x2 : Int32) (x3 : Int32) (M : am_M) (q : Int32 × am_M) (h : fd_104_72 k23 x1 x2 x3 M = some q) : am_ev (tb_P L xs) 104 72 [some (.ref 94), some (.int x1), some (.int x2), some (.int x3)] [] sh_A M (some (.int q.1), sh_A, q.2) := by
  unfold fd_104_72 at h
  refine am_ev_go (pc' := 23) (L' := [some (.ref 94), some (.int x1), some (.int x2), some (.int (x3 + (1 : Int32)))]) (st' := []) (sh' := sh_A) (M' := M) 2 rfl ?_
  exact hk23 _ _ _ _ _ h
def fd_104_23 (f : Nat) : Int32 → Int32 → Int32 → am_M → Option (Int32 × am_M) := Nat.rec (motive := fun _ => Int32 → Int32 → Int32 → am_M → Option (Int32 × am_M)) (fun _ _ _ _ => none) (fun _ k23 => fun x1 x2 x3 M => if (16 : Int32) ≤ x3 then (fd_104_80 1000 x1 x2 (0 : Int32) M) else ((fd_106 x3 M).bind fun q2 => if q2.1 = (0 : Int32) then (fd_104_72 k23 x1 x2 x3 q2.2) else ((fd_81 x3 q2.2).bind fun q5 => if q5.1 = x1 then ((fd_101 x1 x3 q5.2).bind fun q8 => if q8.1 = (0 : Int32) then ((fd_108 x3 q8.2).bind fun q11 => fd_104_72 k23 x1 (x2 + (1 : Int32)) x3 q11) else (fd_104_72 k23 x1 x2 x3 q8.2)) else (fd_104_72 k23 x1 x2 x3 q5.2)))) f
theorem te_104_23 {L : Nat} {xs : Nat → Int32} : ∀ (f : Nat) (x1 : Int32) (x2 : Int32) (x3 : Int32) (M : am_M) (q : Int32 × am_M), fd_104_23 f x1 x2 x3 M = some q → am_ev (tb_P L xs) 104 23 [some (.ref 94), some (.int x1), some (.int x2), some (.int x3)] [] sh_A M (some (.int q.1), sh_A, q.2) := by
  intro f
  induction f with
  | zero => intro x1 x2 x3 M q h; cases h
  | succ f hk23 =>
    intro x1 x2 x3 M q h
    change (if (16 : Int32) ≤ x3 then (fd_104_80 1000 x1 x2 (0 : Int32) M) else ((fd_106 x3 M).bind fun q2 => if q2.1 = (0 : Int32) then (fd_104_72 (fd_104_23 f) x1 x2 x3 q2.2) else ((fd_81 x3 q2.2).bind fun q5 => if q5.1 = x1 then ((fd_101 x1 x3 q5.2).bind fun q8 => if q8.1 = (0 : Int32) then ((fd_108 x3 q8.2).bind fun q11 => fd_104_72 (fd_104_23 f) x1 (x2 + (1 : Int32)) x3 q11) else (fd_104_72 (fd_104_23 f) x1 x2 x3 q8.2)) else (fd_104_72 (fd_104_23 f) x1 x2 x3 q5.2)))) = some q at h
    refine am_ev_go (pc' := (am_br .ge x3 (16 : Int32) 78 29)) (L' := [some (.ref 94), some (.int x1), some (.int x2), some (.int x3)]) (st' := []) (sh' := sh_A) (M' := M) 3 rfl ?_
    refine ev_ge (fun hc1 => ?_) (fun hc1 => ?_)
    · rw [if_pos hc1] at h
      refine am_ev_go (pc' := 80) (L' := [some (.ref 94), some (.int x1), some (.int x2), some (.int (0 : Int32))]) (st' := []) (sh' := sh_A) (M' := M) 2 rfl ?_
      exact te_104_80 1000 _ _ _ _ _ h
    · rw [if_neg hc1] at h
      refine am_ev_go (pc' := 31) (L' := [some (.ref 94), some (.int x1), some (.int x2), some (.int x3)]) (st' := [.int x3, .ref 94]) (sh' := sh_A) (M' := M) 2 rfl ?_
      obtain ⟨q2, hq3, h⟩ := Option.bind_eq_some_iff.mp h
      refine am_ev_call (mj := 106) (as := [.ref 94, .int x3]) (rest := []) (rv := some (.int q2.1)) (sh' := sh_A) (M' := q2.2) rfl (te_106 _ _ _ hq3) ?_
      show am_ev _ 104 34 [some (.ref 94), some (.int x1), some (.int x2), some (.int x3)] [.int q2.1] sh_A q2.2 _
      refine am_ev_go (pc' := (am_br .eq q2.1 0 72 37)) (L' := [some (.ref 94), some (.int x1), some (.int x2), some (.int x3)]) (st' := []) (sh' := sh_A) (M' := q2.2) 1 rfl ?_
      refine ev_eq (fun hc4 => ?_) (fun hc4 => ?_)
      · rw [if_pos hc4] at h
        exact te_104_72 hk23 _ _ _ _ _ h
      · rw [if_neg hc4] at h
        refine am_ev_go (pc' := 42) (L' := [some (.ref 94), some (.int x1), some (.int x2), some (.int x3)]) (st' := [.int x3, .ref 79]) (sh' := sh_A) (M' := q2.2) 3 rfl ?_
        obtain ⟨q5, hq6, h⟩ := Option.bind_eq_some_iff.mp h
        refine am_ev_call (mj := 81) (as := [.ref 79, .int x3]) (rest := []) (rv := some (.int q5.1)) (sh' := sh_A) (M' := q5.2) rfl (te_81 _ _ _ hq6) ?_
        show am_ev _ 104 45 [some (.ref 94), some (.int x1), some (.int x2), some (.int x3)] [.int q5.1] sh_A q5.2 _
        refine am_ev_go (pc' := (am_br .ne q5.1 x1 72 49)) (L' := [some (.ref 94), some (.int x1), some (.int x2), some (.int x3)]) (st' := []) (sh' := sh_A) (M' := q5.2) 2 rfl ?_
        refine ev_ne (fun hc7 => ?_) (fun hc7 => ?_)
        · rw [if_neg hc7] at h
          exact te_104_72 hk23 _ _ _ _ _ h
        · rw [if_pos hc7] at h
          refine am_ev_go (pc' := 55) (L' := [some (.ref 94), some (.int x1), some (.int x2), some (.int x3)]) (st' := [.int x3, .int x1, .ref 79]) (sh' := sh_A) (M' := q5.2) 4 rfl ?_
          obtain ⟨q8, hq9, h⟩ := Option.bind_eq_some_iff.mp h
          refine am_ev_call (mj := 101) (as := [.ref 79, .int x1, .int x3]) (rest := []) (rv := some (.int q8.1)) (sh' := sh_A) (M' := q8.2) rfl (te_101 _ _ _ _ hq9) ?_
          show am_ev _ 104 58 [some (.ref 94), some (.int x1), some (.int x2), some (.int x3)] [.int q8.1] sh_A q8.2 _
          refine am_ev_go (pc' := (am_br .ne q8.1 0 72 61)) (L' := [some (.ref 94), some (.int x1), some (.int x2), some (.int x3)]) (st' := []) (sh' := sh_A) (M' := q8.2) 1 rfl ?_
          refine ev_ne (fun hc10 => ?_) (fun hc10 => ?_)
          · rw [if_neg hc10] at h
            exact te_104_72 hk23 _ _ _ _ _ h
          · rw [if_pos hc10] at h
            refine am_ev_go (pc' := 66) (L' := [some (.ref 94), some (.int x1), some (.int x2), some (.int x3)]) (st' := [.int x3, .ref 79]) (sh' := sh_A) (M' := q8.2) 3 rfl ?_
            obtain ⟨q11, hq12, h⟩ := Option.bind_eq_some_iff.mp h
            refine am_ev_call (mj := 108) (as := [.ref 79, .int x3]) (rest := []) (rv := none) (sh' := sh_A) (M' := q11) rfl (te_108 _ _ _ hq12) ?_
            show am_ev _ 104 69 [some (.ref 94), some (.int x1), some (.int x2), some (.int x3)] [] sh_A q11 _
            refine am_ev_go (pc' := 72) (L' := [some (.ref 94), some (.int x1), some (.int (x2 + (1 : Int32))), some (.int x3)]) (st' := []) (sh' := sh_A) (M' := q11) 1 rfl ?_
            exact te_104_72 hk23 _ _ _ _ _ h
/-- CountedActors$Machine.collectFor(I)I -/
def fd_104 (a1 : Int32) (M : am_M) : Option (Int32 × am_M) := (fd_76 M).bind fun q1 => (fd_105 a1 q1).bind fun q3 => (fd_78 q3).bind fun q5 => fd_104_23 1000 a1 (0 : Int32) (0 : Int32) q5
theorem te_104 {L : Nat} {xs : Nat → Int32} (a1 : Int32) (M : am_M) (q : Int32 × am_M) (h : fd_104 a1 M = some q) : am_ev (tb_P L xs) 104 0 [some (.ref 94), some (.int a1), none, none] [] sh_A M (some (.int q.1), sh_A, q.2) := by
  unfold fd_104 at h
  refine am_ev_go (pc' := 4) (L' := [some (.ref 94), some (.int a1), none, none]) (st' := [.ref 89]) (sh' := sh_A) (M' := M) 2 rfl ?_
  obtain ⟨q1, hq2, h⟩ := Option.bind_eq_some_iff.mp h
  refine am_ev_call (mj := 76) (as := [.ref 89]) (rest := []) (rv := none) (sh' := sh_A) (M' := q1) rfl (te_76 _ _ hq2) ?_
  show am_ev _ 104 7 [some (.ref 94), some (.int a1), none, none] [] sh_A q1 _
  refine am_ev_go (pc' := 9) (L' := [some (.ref 94), some (.int a1), none, none]) (st' := [.int a1, .ref 94]) (sh' := sh_A) (M' := q1) 2 rfl ?_
  obtain ⟨q3, hq4, h⟩ := Option.bind_eq_some_iff.mp h
  refine am_ev_call (mj := 105) (as := [.ref 94, .int a1]) (rest := []) (rv := none) (sh' := sh_A) (M' := q3) rfl (te_105 _ _ _ hq4) ?_
  show am_ev _ 104 12 [some (.ref 94), some (.int a1), none, none] [] sh_A q3 _
  refine am_ev_go (pc' := 16) (L' := [some (.ref 94), some (.int a1), none, none]) (st' := [.ref 89]) (sh' := sh_A) (M' := q3) 2 rfl ?_
  obtain ⟨q5, hq6, h⟩ := Option.bind_eq_some_iff.mp h
  refine am_ev_call (mj := 78) (as := [.ref 89]) (rest := []) (rv := none) (sh' := sh_A) (M' := q5) rfl (te_78 _ _ hq6) ?_
  show am_ev _ 104 19 [some (.ref 94), some (.int a1), none, none] [] sh_A q5 _
  refine am_ev_go (pc' := 23) (L' := [some (.ref 94), some (.int a1), some (.int (0 : Int32)), some (.int (0 : Int32))]) (st' := []) (sh' := sh_A) (M' := q5) 4 rfl ?_
  exact te_104_23 1000 _ _ _ _ _ h
/-- CountedActors.collect(I)I -/
def fd_103 (a1 : Int32) (M : am_M) : Option (Int32 × am_M) := (fd_63 a1 M).bind fun q1 => if q1.1 = (0 : Int32) then (some ((-1 : Int32), q1.2)) else ((fd_104 a1 q1.2).bind fun q4 => some (q4.1, q4.2))
theorem te_103 {L : Nat} {xs : Nat → Int32} (a1 : Int32) (M : am_M) (q : Int32 × am_M) (h : fd_103 a1 M = some q) : am_ev (tb_P L xs) 103 0 [some (.ref 0), some (.int a1)] [] sh_A M (some (.int q.1), sh_A, q.2) := by
  unfold fd_103 at h
  refine am_ev_go (pc' := 2) (L' := [some (.ref 0), some (.int a1)]) (st' := [.int a1, .ref 0]) (sh' := sh_A) (M' := M) 2 rfl ?_
  obtain ⟨q1, hq2, h⟩ := Option.bind_eq_some_iff.mp h
  refine am_ev_call (mj := 63) (as := [.ref 0, .int a1]) (rest := []) (rv := some (.int q1.1)) (sh' := sh_A) (M' := q1.2) rfl (te_63 _ _ _ hq2) ?_
  show am_ev _ 103 5 [some (.ref 0), some (.int a1)] [.int q1.1] sh_A q1.2 _
  refine am_ev_go (pc' := (am_br .eq q1.1 0 19 8)) (L' := [some (.ref 0), some (.int a1)]) (st' := []) (sh' := sh_A) (M' := q1.2) 1 rfl ?_
  refine ev_eq (fun hc3 => ?_) (fun hc3 => ?_)
  · rw [if_pos hc3] at h
    refine am_ev_go (pc' := 20) (L' := [some (.ref 0), some (.int a1)]) (st' := [.int (-1 : Int32)]) (sh' := sh_A) (M' := q1.2) 1 rfl ?_
    cases h
    exact am_ev_ret rfl
  · rw [if_neg hc3] at h
    refine am_ev_go (pc' := 13) (L' := [some (.ref 0), some (.int a1)]) (st' := [.int a1, .ref 94]) (sh' := sh_A) (M' := q1.2) 3 rfl ?_
    obtain ⟨q4, hq5, h⟩ := Option.bind_eq_some_iff.mp h
    refine am_ev_call (mj := 104) (as := [.ref 94, .int a1]) (rest := []) (rv := some (.int q4.1)) (sh' := sh_A) (M' := q4.2) rfl (te_104 _ _ _ hq5) ?_
    show am_ev _ 103 16 [some (.ref 0), some (.int a1)] [.int q4.1] sh_A q4.2 _
    refine am_ev_go (pc' := 20) (L' := [some (.ref 0), some (.int a1)]) (st' := [.int q4.1]) (sh' := sh_A) (M' := q4.2) 1 rfl ?_
    cases h
    exact am_ev_ret rfl
def fd_111_25 (k4 : Int32 → Int32 → Int32 → am_M → Option (Int32 × am_M)) (x1 : Int32) (x2 : Int32) (x3 : Int32) (M : am_M) : Option (Int32 × am_M) := k4 x1 x2 (x3 + (1 : Int32)) M
theorem te_111_25 {L : Nat} {xs : Nat → Int32} {k4 : Int32 → Int32 → Int32 → am_M → Option (Int32 × am_M)} (hk4 : ∀ (x1 : Int32) (x2 : Int32) (x3 : Int32) (M : am_M) (q : Int32 × am_M), k4 x1 x2 x3 M = some q → am_ev (tb_P L xs) 111 4 [some (.ref 84), some (.int x1), some (.int x2), some (.int x3)] [] sh_A M (some (.int q.1), sh_A, q.2)) (x1 : Int32) (x2 : Int32) (x3 : Int32) (M : am_M) (q : Int32 × am_M) (h : fd_111_25 k4 x1 x2 x3 M = some q) : am_ev (tb_P L xs) 111 25 [some (.ref 84), some (.int x1), some (.int x2), some (.int x3)] [] sh_A M (some (.int q.1), sh_A, q.2) := by
  unfold fd_111_25 at h
  refine am_ev_go (pc' := 4) (L' := [some (.ref 84), some (.int x1), some (.int x2), some (.int (x3 + (1 : Int32)))]) (st' := []) (sh' := sh_A) (M' := M) 2 rfl ?_
  exact hk4 _ _ _ _ _ h
def fd_111_4 (f : Nat) : Int32 → Int32 → Int32 → am_M → Option (Int32 × am_M) := Nat.rec (motive := fun _ => Int32 → Int32 → Int32 → am_M → Option (Int32 × am_M)) (fun _ _ _ _ => none) (fun _ k4 => fun x1 x2 x3 M => if (M 84 4) ≤ x3 then (some (x2, M)) else (if x3 < 0 ∨ 20 ≤ x3.toNatClampNeg then none else if (M 86 x3.toNatClampNeg) = x1 then (fd_111_25 k4 x1 (x2 + (1 : Int32)) x3 M) else (fd_111_25 k4 x1 x2 x3 M))) f
theorem te_111_4 {L : Nat} {xs : Nat → Int32} : ∀ (f : Nat) (x1 : Int32) (x2 : Int32) (x3 : Int32) (M : am_M) (q : Int32 × am_M), fd_111_4 f x1 x2 x3 M = some q → am_ev (tb_P L xs) 111 4 [some (.ref 84), some (.int x1), some (.int x2), some (.int x3)] [] sh_A M (some (.int q.1), sh_A, q.2) := by
  intro f
  induction f with
  | zero => intro x1 x2 x3 M q h; cases h
  | succ f hk4 =>
    intro x1 x2 x3 M q h
    change (if (M 84 4) ≤ x3 then (some (x2, M)) else (if x3 < 0 ∨ 20 ≤ x3.toNatClampNeg then none else if (M 86 x3.toNatClampNeg) = x1 then (fd_111_25 (fd_111_4 f) x1 (x2 + (1 : Int32)) x3 M) else (fd_111_25 (fd_111_4 f) x1 x2 x3 M))) = some q at h
    refine am_ev_go (pc' := (am_br .ge x3 (M 84 4) 31 12)) (L' := [some (.ref 84), some (.int x1), some (.int x2), some (.int x3)]) (st' := []) (sh' := sh_A) (M' := M) 4 rfl ?_
    refine ev_ge (fun hc1 => ?_) (fun hc1 => ?_)
    · rw [if_pos hc1] at h
      refine am_ev_go (pc' := 32) (L' := [some (.ref 84), some (.int x1), some (.int x2), some (.int x3)]) (st' := [.int x2]) (sh' := sh_A) (M' := M) 1 rfl ?_
      cases h
      exact am_ev_ret rfl
    · rw [if_neg hc1] at h
      refine am_ev_go (pc' := 17) (L' := [some (.ref 84), some (.int x1), some (.int x2), some (.int x3)]) (st' := [.int x3, .ref 86]) (sh' := sh_A) (M' := M) 3 rfl ?_
      by_cases hg2 : x3 < 0 ∨ 20 ≤ x3.toNatClampNeg
      case pos => rw [if_pos hg2] at h; cases h
      rw [if_neg hg2] at h
      refine ev_iald rfl rfl hg2 ?_
      refine am_ev_go (pc' := (am_br .ne (M 86 x3.toNatClampNeg) x1 25 22)) (L' := [some (.ref 84), some (.int x1), some (.int x2), some (.int x3)]) (st' := []) (sh' := sh_A) (M' := M) 2 rfl ?_
      refine ev_ne (fun hc3 => ?_) (fun hc3 => ?_)
      · rw [if_neg hc3] at h
        exact te_111_25 hk4 _ _ _ _ _ h
      · rw [if_pos hc3] at h
        refine am_ev_go (pc' := 25) (L' := [some (.ref 84), some (.int x1), some (.int (x2 + (1 : Int32))), some (.int x3)]) (st' := []) (sh' := sh_A) (M' := M) 1 rfl ?_
        exact te_111_25 hk4 _ _ _ _ _ h
/-- CountedActors$Mail.sizeFor(I)I -/
def fd_111 (a1 : Int32) (M : am_M) : Option (Int32 × am_M) := fd_111_4 1000 a1 (0 : Int32) (0 : Int32) M
theorem te_111 {L : Nat} {xs : Nat → Int32} (a1 : Int32) (M : am_M) (q : Int32 × am_M) (h : fd_111 a1 M = some q) : am_ev (tb_P L xs) 111 0 [some (.ref 84), some (.int a1), none, none] [] sh_A M (some (.int q.1), sh_A, q.2) := by
  unfold fd_111 at h
  refine am_ev_go (pc' := 4) (L' := [some (.ref 84), some (.int a1), some (.int (0 : Int32)), some (.int (0 : Int32))]) (st' := []) (sh' := sh_A) (M' := M) 4 rfl ?_
  exact te_111_4 1000 _ _ _ _ _ h
/-- CountedActors.waiting(I)I -/
def fd_110 (a1 : Int32) (M : am_M) : Option (Int32 × am_M) := (fd_63 a1 M).bind fun q1 => if q1.1 = (0 : Int32) then (some ((-1 : Int32), q1.2)) else ((fd_111 a1 q1.2).bind fun q4 => some (q4.1, q4.2))
theorem te_110 {L : Nat} {xs : Nat → Int32} (a1 : Int32) (M : am_M) (q : Int32 × am_M) (h : fd_110 a1 M = some q) : am_ev (tb_P L xs) 110 0 [some (.ref 0), some (.int a1)] [] sh_A M (some (.int q.1), sh_A, q.2) := by
  unfold fd_110 at h
  refine am_ev_go (pc' := 2) (L' := [some (.ref 0), some (.int a1)]) (st' := [.int a1, .ref 0]) (sh' := sh_A) (M' := M) 2 rfl ?_
  obtain ⟨q1, hq2, h⟩ := Option.bind_eq_some_iff.mp h
  refine am_ev_call (mj := 63) (as := [.ref 0, .int a1]) (rest := []) (rv := some (.int q1.1)) (sh' := sh_A) (M' := q1.2) rfl (te_63 _ _ _ hq2) ?_
  show am_ev _ 110 5 [some (.ref 0), some (.int a1)] [.int q1.1] sh_A q1.2 _
  refine am_ev_go (pc' := (am_br .eq q1.1 0 19 8)) (L' := [some (.ref 0), some (.int a1)]) (st' := []) (sh' := sh_A) (M' := q1.2) 1 rfl ?_
  refine ev_eq (fun hc3 => ?_) (fun hc3 => ?_)
  · rw [if_pos hc3] at h
    refine am_ev_go (pc' := 20) (L' := [some (.ref 0), some (.int a1)]) (st' := [.int (-1 : Int32)]) (sh' := sh_A) (M' := q1.2) 1 rfl ?_
    cases h
    exact am_ev_ret rfl
  · rw [if_neg hc3] at h
    refine am_ev_go (pc' := 13) (L' := [some (.ref 0), some (.int a1)]) (st' := [.int a1, .ref 84]) (sh' := sh_A) (M' := q1.2) 3 rfl ?_
    obtain ⟨q4, hq5, h⟩ := Option.bind_eq_some_iff.mp h
    refine am_ev_call (mj := 111) (as := [.ref 84, .int a1]) (rest := []) (rv := some (.int q4.1)) (sh' := sh_A) (M' := q4.2) rfl (te_111 _ _ _ hq5) ?_
    show am_ev _ 110 16 [some (.ref 0), some (.int a1)] [.int q4.1] sh_A q4.2 _
    refine am_ev_go (pc' := 20) (L' := [some (.ref 0), some (.int a1)]) (st' := [.int q4.1]) (sh' := sh_A) (M' := q4.2) 1 rfl ?_
    cases h
    exact am_ev_ret rfl
/-- CountedActors.owner(I)I -/
def fd_112 (a1 : Int32) (M : am_M) : Option (Int32 × am_M) := (fd_107 a1 M).bind fun q1 => if q1.1 = (0 : Int32) then (some ((-1 : Int32), q1.2)) else ((fd_81 a1 q1.2).bind fun q4 => some (q4.1, q4.2))
theorem te_112 {L : Nat} {xs : Nat → Int32} (a1 : Int32) (M : am_M) (q : Int32 × am_M) (h : fd_112 a1 M = some q) : am_ev (tb_P L xs) 112 0 [some (.ref 0), some (.int a1)] [] sh_A M (some (.int q.1), sh_A, q.2) := by
  unfold fd_112 at h
  refine am_ev_go (pc' := 5) (L' := [some (.ref 0), some (.int a1)]) (st' := [.int a1, .ref 79]) (sh' := sh_A) (M' := M) 3 rfl ?_
  obtain ⟨q1, hq2, h⟩ := Option.bind_eq_some_iff.mp h
  refine am_ev_call (mj := 107) (as := [.ref 79, .int a1]) (rest := []) (rv := some (.int q1.1)) (sh' := sh_A) (M' := q1.2) rfl (te_107 _ _ _ hq2) ?_
  show am_ev _ 112 8 [some (.ref 0), some (.int a1)] [.int q1.1] sh_A q1.2 _
  refine am_ev_go (pc' := (am_br .eq q1.1 0 22 11)) (L' := [some (.ref 0), some (.int a1)]) (st' := []) (sh' := sh_A) (M' := q1.2) 1 rfl ?_
  refine ev_eq (fun hc3 => ?_) (fun hc3 => ?_)
  · rw [if_pos hc3] at h
    refine am_ev_go (pc' := 23) (L' := [some (.ref 0), some (.int a1)]) (st' := [.int (-1 : Int32)]) (sh' := sh_A) (M' := q1.2) 1 rfl ?_
    cases h
    exact am_ev_ret rfl
  · rw [if_neg hc3] at h
    refine am_ev_go (pc' := 16) (L' := [some (.ref 0), some (.int a1)]) (st' := [.int a1, .ref 79]) (sh' := sh_A) (M' := q1.2) 3 rfl ?_
    obtain ⟨q4, hq5, h⟩ := Option.bind_eq_some_iff.mp h
    refine am_ev_call (mj := 81) (as := [.ref 79, .int a1]) (rest := []) (rv := some (.int q4.1)) (sh' := sh_A) (M' := q4.2) rfl (te_81 _ _ _ hq5) ?_
    show am_ev _ 112 19 [some (.ref 0), some (.int a1)] [.int q4.1] sh_A q4.2 _
    refine am_ev_go (pc' := 23) (L' := [some (.ref 0), some (.int a1)]) (st' := [.int q4.1]) (sh' := sh_A) (M' := q4.2) 1 rfl ?_
    cases h
    exact am_ev_ret rfl
/-- CountedActors.cell(I)I -/
def fd_113 (a1 : Int32) (M : am_M) : Option (Int32 × am_M) := (fd_107 a1 M).bind fun q1 => if q1.1 = (0 : Int32) then (some ((0 : Int32), q1.2)) else ((fd_97 a1 q1.2).bind fun q4 => some (q4.1, q4.2))
theorem te_113 {L : Nat} {xs : Nat → Int32} (a1 : Int32) (M : am_M) (q : Int32 × am_M) (h : fd_113 a1 M = some q) : am_ev (tb_P L xs) 113 0 [some (.ref 0), some (.int a1)] [] sh_A M (some (.int q.1), sh_A, q.2) := by
  unfold fd_113 at h
  refine am_ev_go (pc' := 5) (L' := [some (.ref 0), some (.int a1)]) (st' := [.int a1, .ref 79]) (sh' := sh_A) (M' := M) 3 rfl ?_
  obtain ⟨q1, hq2, h⟩ := Option.bind_eq_some_iff.mp h
  refine am_ev_call (mj := 107) (as := [.ref 79, .int a1]) (rest := []) (rv := some (.int q1.1)) (sh' := sh_A) (M' := q1.2) rfl (te_107 _ _ _ hq2) ?_
  show am_ev _ 113 8 [some (.ref 0), some (.int a1)] [.int q1.1] sh_A q1.2 _
  refine am_ev_go (pc' := (am_br .eq q1.1 0 22 11)) (L' := [some (.ref 0), some (.int a1)]) (st' := []) (sh' := sh_A) (M' := q1.2) 1 rfl ?_
  refine ev_eq (fun hc3 => ?_) (fun hc3 => ?_)
  · rw [if_pos hc3] at h
    refine am_ev_go (pc' := 23) (L' := [some (.ref 0), some (.int a1)]) (st' := [.int (0 : Int32)]) (sh' := sh_A) (M' := q1.2) 1 rfl ?_
    cases h
    exact am_ev_ret rfl
  · rw [if_neg hc3] at h
    refine am_ev_go (pc' := 16) (L' := [some (.ref 0), some (.int a1)]) (st' := [.int a1, .ref 79]) (sh' := sh_A) (M' := q1.2) 3 rfl ?_
    obtain ⟨q4, hq5, h⟩ := Option.bind_eq_some_iff.mp h
    refine am_ev_call (mj := 97) (as := [.ref 79, .int a1]) (rest := []) (rv := some (.int q4.1)) (sh' := sh_A) (M' := q4.2) rfl (te_97 _ _ _ hq5) ?_
    show am_ev _ 113 19 [some (.ref 0), some (.int a1)] [.int q4.1] sh_A q4.2 _
    refine am_ev_go (pc' := 23) (L' := [some (.ref 0), some (.int a1)]) (st' := [.int q4.1]) (sh' := sh_A) (M' := q4.2) 1 rfl ?_
    cases h
    exact am_ev_ret rfl
/-- CountedActors.count(II)I -/
def fd_114 (a1 : Int32) (a2 : Int32) (M : am_M) : Option (Int32 × am_M) := (fd_63 a1 M).bind fun q1 => if q1.1 = (0 : Int32) then (some ((-1 : Int32), q1.2)) else ((fd_107 a2 q1.2).bind fun q4 => if q4.1 = (0 : Int32) then (some ((-1 : Int32), q4.2)) else ((fd_101 a1 a2 q4.2).bind fun q7 => some (q7.1, q7.2)))
theorem te_114 {L : Nat} {xs : Nat → Int32} (a1 : Int32) (a2 : Int32) (M : am_M) (q : Int32 × am_M) (h : fd_114 a1 a2 M = some q) : am_ev (tb_P L xs) 114 0 [some (.ref 0), some (.int a1), some (.int a2)] [] sh_A M (some (.int q.1), sh_A, q.2) := by
  unfold fd_114 at h
  refine am_ev_go (pc' := 2) (L' := [some (.ref 0), some (.int a1), some (.int a2)]) (st' := [.int a1, .ref 0]) (sh' := sh_A) (M' := M) 2 rfl ?_
  obtain ⟨q1, hq2, h⟩ := Option.bind_eq_some_iff.mp h
  refine am_ev_call (mj := 63) (as := [.ref 0, .int a1]) (rest := []) (rv := some (.int q1.1)) (sh' := sh_A) (M' := q1.2) rfl (te_63 _ _ _ hq2) ?_
  show am_ev _ 114 5 [some (.ref 0), some (.int a1), some (.int a2)] [.int q1.1] sh_A q1.2 _
  refine am_ev_go (pc' := (am_br .eq q1.1 0 31 8)) (L' := [some (.ref 0), some (.int a1), some (.int a2)]) (st' := []) (sh' := sh_A) (M' := q1.2) 1 rfl ?_
  refine ev_eq (fun hc3 => ?_) (fun hc3 => ?_)
  · rw [if_pos hc3] at h
    refine am_ev_go (pc' := 32) (L' := [some (.ref 0), some (.int a1), some (.int a2)]) (st' := [.int (-1 : Int32)]) (sh' := sh_A) (M' := q1.2) 1 rfl ?_
    cases h
    exact am_ev_ret rfl
  · rw [if_neg hc3] at h
    refine am_ev_go (pc' := 13) (L' := [some (.ref 0), some (.int a1), some (.int a2)]) (st' := [.int a2, .ref 79]) (sh' := sh_A) (M' := q1.2) 3 rfl ?_
    obtain ⟨q4, hq5, h⟩ := Option.bind_eq_some_iff.mp h
    refine am_ev_call (mj := 107) (as := [.ref 79, .int a2]) (rest := []) (rv := some (.int q4.1)) (sh' := sh_A) (M' := q4.2) rfl (te_107 _ _ _ hq5) ?_
    show am_ev _ 114 16 [some (.ref 0), some (.int a1), some (.int a2)] [.int q4.1] sh_A q4.2 _
    refine am_ev_go (pc' := (am_br .eq q4.1 0 31 19)) (L' := [some (.ref 0), some (.int a1), some (.int a2)]) (st' := []) (sh' := sh_A) (M' := q4.2) 1 rfl ?_
    refine ev_eq (fun hc6 => ?_) (fun hc6 => ?_)
    · rw [if_pos hc6] at h
      refine am_ev_go (pc' := 32) (L' := [some (.ref 0), some (.int a1), some (.int a2)]) (st' := [.int (-1 : Int32)]) (sh' := sh_A) (M' := q4.2) 1 rfl ?_
      cases h
      exact am_ev_ret rfl
    · rw [if_neg hc6] at h
      refine am_ev_go (pc' := 25) (L' := [some (.ref 0), some (.int a1), some (.int a2)]) (st' := [.int a2, .int a1, .ref 79]) (sh' := sh_A) (M' := q4.2) 4 rfl ?_
      obtain ⟨q7, hq8, h⟩ := Option.bind_eq_some_iff.mp h
      refine am_ev_call (mj := 101) (as := [.ref 79, .int a1, .int a2]) (rest := []) (rv := some (.int q7.1)) (sh' := sh_A) (M' := q7.2) rfl (te_101 _ _ _ _ hq8) ?_
      show am_ev _ 114 28 [some (.ref 0), some (.int a1), some (.int a2)] [.int q7.1] sh_A q7.2 _
      refine am_ev_go (pc' := 32) (L' := [some (.ref 0), some (.int a1), some (.int a2)]) (st' := [.int q7.1]) (sh' := sh_A) (M' := q7.2) 1 rfl ?_
      cases h
      exact am_ev_ret rfl
