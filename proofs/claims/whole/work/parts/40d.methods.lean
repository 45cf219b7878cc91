/-- CountedActors.field(II)I -/
def fd_115 (a1 : Int32) (a2 : Int32) (M : am_M) : Option (Int32 × am_M) := (fd_63 a1 M).bind fun q1 => if q1.1 = (0 : Int32) then (some ((-1 : Int32), q1.2)) else ((fd_31 a2 q1.2).bind fun q4 => if q4.1 = (0 : Int32) then (some ((-1 : Int32), q4.2)) else ((fd_91 a1 q4.2).bind fun q7 => (fd_79 q7.1 a2 q7.2).bind fun q9 => some (q9.1, q9.2)))
theorem te_115 {L : Nat} {xs : Nat → Int32} (a1 : Int32) (a2 : Int32) (M : am_M) (q : Int32 × am_M) (h : fd_115 a1 a2 M = some q) : am_ev (tb_P L xs) 115 0 [some (.ref 0), some (.int a1), some (.int a2)] [] sh_A M (some (.int q.1), sh_A, q.2) := by
  unfold fd_115 at h
  refine am_ev_go (pc' := 2) (L' := [some (.ref 0), some (.int a1), some (.int a2)]) (st' := [.int a1, .ref 0]) (sh' := sh_A) (M' := M) 2 rfl ?_
  obtain ⟨q1, hq2, h⟩ := Option.bind_eq_some_iff.mp h
  refine am_ev_call (mj := 63) (as := [.ref 0, .int a1]) (rest := []) (rv := some (.int q1.1)) (sh' := sh_A) (M' := q1.2) rfl (te_63 _ _ _ hq2) ?_
  show am_ev _ 115 5 [some (.ref 0), some (.int a1), some (.int a2)] [.int q1.1] sh_A q1.2 _
  refine am_ev_go (pc' := (am_br .eq q1.1 0 30 8)) (L' := [some (.ref 0), some (.int a1), some (.int a2)]) (st' := []) (sh' := sh_A) (M' := q1.2) 1 rfl ?_
  refine ev_eq (fun hc3 => ?_) (fun hc3 => ?_)
  · rw [if_pos hc3] at h
    refine am_ev_go (pc' := 31) (L' := [some (.ref 0), some (.int a1), some (.int a2)]) (st' := [.int (-1 : Int32)]) (sh' := sh_A) (M' := q1.2) 1 rfl ?_
    cases h
    exact am_ev_ret rfl
  · rw [if_neg hc3] at h
    refine am_ev_go (pc' := 9) (L' := [some (.ref 0), some (.int a1), some (.int a2)]) (st' := [.int a2]) (sh' := sh_A) (M' := q1.2) 1 rfl ?_
    obtain ⟨q4, hq5, h⟩ := Option.bind_eq_some_iff.mp h
    refine am_ev_call (mj := 31) (as := [.int a2]) (rest := []) (rv := some (.int q4.1)) (sh' := sh_A) (M' := q4.2) rfl (te_31 _ _ _ hq5) ?_
    show am_ev _ 115 12 [some (.ref 0), some (.int a1), some (.int a2)] [.int q4.1] sh_A q4.2 _
    refine am_ev_go (pc' := (am_br .eq q4.1 0 30 15)) (L' := [some (.ref 0), some (.int a1), some (.int a2)]) (st' := []) (sh' := sh_A) (M' := q4.2) 1 rfl ?_
    refine ev_eq (fun hc6 => ?_) (fun hc6 => ?_)
    · rw [if_pos hc6] at h
      refine am_ev_go (pc' := 31) (L' := [some (.ref 0), some (.int a1), some (.int a2)]) (st' := [.int (-1 : Int32)]) (sh' := sh_A) (M' := q4.2) 1 rfl ?_
      cases h
      exact am_ev_ret rfl
    · rw [if_neg hc6] at h
      refine am_ev_go (pc' := 20) (L' := [some (.ref 0), some (.int a1), some (.int a2)]) (st' := [.int a1, .ref 79]) (sh' := sh_A) (M' := q4.2) 3 rfl ?_
      obtain ⟨q7, hq8, h⟩ := Option.bind_eq_some_iff.mp h
      refine am_ev_call (mj := 91) (as := [.int a1]) (rest := [.ref 79]) (rv := some (.int q7.1)) (sh' := sh_A) (M' := q7.2) rfl (te_91 _ _ _ hq8) ?_
      show am_ev _ 115 23 [some (.ref 0), some (.int a1), some (.int a2)] [.int q7.1, .ref 79] sh_A q7.2 _
      refine am_ev_go (pc' := 24) (L' := [some (.ref 0), some (.int a1), some (.int a2)]) (st' := [.int a2, .int q7.1, .ref 79]) (sh' := sh_A) (M' := q7.2) 1 rfl ?_
      obtain ⟨q9, hq10, h⟩ := Option.bind_eq_some_iff.mp h
      refine am_ev_call (mj := 79) (as := [.ref 79, .int q7.1, .int a2]) (rest := []) (rv := some (.int q9.1)) (sh' := sh_A) (M' := q9.2) rfl (te_79 _ _ _ _ hq10) ?_
      show am_ev _ 115 27 [some (.ref 0), some (.int a1), some (.int a2)] [.int q9.1] sh_A q9.2 _
      refine am_ev_go (pc' := 31) (L' := [some (.ref 0), some (.int a1), some (.int a2)]) (st' := [.int q9.1]) (sh' := sh_A) (M' := q9.2) 1 rfl ?_
      cases h
      exact am_ev_ret rfl
/-- CountedActors.inner(II)I -/
def fd_116 (a1 : Int32) (a2 : Int32) (M : am_M) : Option (Int32 × am_M) := (fd_107 a1 M).bind fun q1 => if q1.1 = (0 : Int32) then (some ((-1 : Int32), q1.2)) else ((fd_31 a2 q1.2).bind fun q4 => if q4.1 = (0 : Int32) then (some ((-1 : Int32), q4.2)) else ((fd_79 a1 a2 q4.2).bind fun q7 => some (q7.1, q7.2)))
theorem te_116 {L : Nat} {xs : Nat → Int32} (a1 : Int32) (a2 : Int32) (M : am_M) (q : Int32 × am_M) (h : fd_116 a1 a2 M = some q) : am_ev (tb_P L xs) 116 0 [some (.ref 0), some (.int a1), some (.int a2)] [] sh_A M (some (.int q.1), sh_A, q.2) := by
  unfold fd_116 at h
  refine am_ev_go (pc' := 5) (L' := [some (.ref 0), some (.int a1), some (.int a2)]) (st' := [.int a1, .ref 79]) (sh' := sh_A) (M' := M) 3 rfl ?_
  obtain ⟨q1, hq2, h⟩ := Option.bind_eq_some_iff.mp h
  refine am_ev_call (mj := 107) (as := [.ref 79, .int a1]) (rest := []) (rv := some (.int q1.1)) (sh' := sh_A) (M' := q1.2) rfl (te_107 _ _ _ hq2) ?_
  show am_ev _ 116 8 [some (.ref 0), some (.int a1), some (.int a2)] [.int q1.1] sh_A q1.2 _
  refine am_ev_go (pc' := (am_br .eq q1.1 0 30 11)) (L' := [some (.ref 0), some (.int a1), some (.int a2)]) (st' := []) (sh' := sh_A) (M' := q1.2) 1 rfl ?_
  refine ev_eq (fun hc3 => ?_) (fun hc3 => ?_)
  · rw [if_pos hc3] at h
    refine am_ev_go (pc' := 31) (L' := [some (.ref 0), some (.int a1), some (.int a2)]) (st' := [.int (-1 : Int32)]) (sh' := sh_A) (M' := q1.2) 1 rfl ?_
    cases h
    exact am_ev_ret rfl
  · rw [if_neg hc3] at h
    refine am_ev_go (pc' := 12) (L' := [some (.ref 0), some (.int a1), some (.int a2)]) (st' := [.int a2]) (sh' := sh_A) (M' := q1.2) 1 rfl ?_
    obtain ⟨q4, hq5, h⟩ := Option.bind_eq_some_iff.mp h
    refine am_ev_call (mj := 31) (as := [.int a2]) (rest := []) (rv := some (.int q4.1)) (sh' := sh_A) (M' := q4.2) rfl (te_31 _ _ _ hq5) ?_
    show am_ev _ 116 15 [some (.ref 0), some (.int a1), some (.int a2)] [.int q4.1] sh_A q4.2 _
    refine am_ev_go (pc' := (am_br .eq q4.1 0 30 18)) (L' := [some (.ref 0), some (.int a1), some (.int a2)]) (st' := []) (sh' := sh_A) (M' := q4.2) 1 rfl ?_
    refine ev_eq (fun hc6 => ?_) (fun hc6 => ?_)
    · rw [if_pos hc6] at h
      refine am_ev_go (pc' := 31) (L' := [some (.ref 0), some (.int a1), some (.int a2)]) (st' := [.int (-1 : Int32)]) (sh' := sh_A) (M' := q4.2) 1 rfl ?_
      cases h
      exact am_ev_ret rfl
    · rw [if_neg hc6] at h
      refine am_ev_go (pc' := 24) (L' := [some (.ref 0), some (.int a1), some (.int a2)]) (st' := [.int a2, .int a1, .ref 79]) (sh' := sh_A) (M' := q4.2) 4 rfl ?_
      obtain ⟨q7, hq8, h⟩ := Option.bind_eq_some_iff.mp h
      refine am_ev_call (mj := 79) (as := [.ref 79, .int a1, .int a2]) (rest := []) (rv := some (.int q7.1)) (sh' := sh_A) (M' := q7.2) rfl (te_79 _ _ _ _ hq8) ?_
      show am_ev _ 116 27 [some (.ref 0), some (.int a1), some (.int a2)] [.int q7.1] sh_A q7.2 _
      refine am_ev_go (pc' := 31) (L' := [some (.ref 0), some (.int a1), some (.int a2)]) (st' := [.int q7.1]) (sh' := sh_A) (M' := q7.2) 1 rfl ?_
      cases h
      exact am_ev_ret rfl
/-- CountedActors$Mail.size()I -/
def fd_119 (M : am_M) : Option (Int32 × am_M) := some ((M 84 4), M)
theorem te_119 {L : Nat} {xs : Nat → Int32} (M : am_M) (q : Int32 × am_M) (h : fd_119  M = some q) : am_ev (tb_P L xs) 119 0 [some (.ref 84)] [] sh_A M (some (.int q.1), sh_A, q.2) := by
  unfold fd_119 at h
  refine am_ev_go (pc' := 4) (L' := [some (.ref 84)]) (st' := [.int (M 84 4)]) (sh' := sh_A) (M' := M) 2 rfl ?_
  cases h
  exact am_ev_ret rfl
/-- CountedActors$Mail.isCallTo(II)Z -/
def fd_120 (a1 : Int32) (a2 : Int32) (M : am_M) : Option (Int32 × am_M) := if a1 < 0 ∨ 20 ≤ a1.toNatClampNeg then none else if (M 85 a1.toNatClampNeg) = (0 : Int32) then (if a1 < 0 ∨ 20 ≤ a1.toNatClampNeg then none else if (M 86 a1.toNatClampNeg) = a2 then (some ((1 : Int32), M)) else (some ((0 : Int32), M))) else (some ((0 : Int32), M))
theorem te_120 {L : Nat} {xs : Nat → Int32} (a1 : Int32) (a2 : Int32) (M : am_M) (q : Int32 × am_M) (h : fd_120 a1 a2 M = some q) : am_ev (tb_P L xs) 120 0 [some (.ref 84), some (.int a1), some (.int a2)] [] sh_A M (some (.int q.1), sh_A, q.2) := by
  unfold fd_120 at h
  refine am_ev_go (pc' := 5) (L' := [some (.ref 84), some (.int a1), some (.int a2)]) (st' := [.int a1, .ref 85]) (sh' := sh_A) (M' := M) 3 rfl ?_
  by_cases hg1 : a1 < 0 ∨ 20 ≤ a1.toNatClampNeg
  case pos => rw [if_pos hg1] at h; cases h
  rw [if_neg hg1] at h
  refine ev_iald rfl rfl hg1 ?_
  refine am_ev_go (pc' := (am_br .ne (M 85 a1.toNatClampNeg) 0 23 9)) (L' := [some (.ref 84), some (.int a1), some (.int a2)]) (st' := []) (sh' := sh_A) (M' := M) 1 rfl ?_
  refine ev_ne (fun hc2 => ?_) (fun hc2 => ?_)
  · rw [if_neg hc2] at h
    refine am_ev_go (pc' := 24) (L' := [some (.ref 84), some (.int a1), some (.int a2)]) (st' := [.int (0 : Int32)]) (sh' := sh_A) (M' := M) 1 rfl ?_
    cases h
    exact am_ev_ret rfl
  · rw [if_pos hc2] at h
    refine am_ev_go (pc' := 14) (L' := [some (.ref 84), some (.int a1), some (.int a2)]) (st' := [.int a1, .ref 86]) (sh' := sh_A) (M' := M) 3 rfl ?_
    by_cases hg3 : a1 < 0 ∨ 20 ≤ a1.toNatClampNeg
    case pos => rw [if_pos hg3] at h; cases h
    rw [if_neg hg3] at h
    refine ev_iald rfl rfl hg3 ?_
    refine am_ev_go (pc' := (am_br .ne (M 86 a1.toNatClampNeg) a2 23 19)) (L' := [some (.ref 84), some (.int a1), some (.int a2)]) (st' := []) (sh' := sh_A) (M' := M) 2 rfl ?_
    refine ev_ne (fun hc4 => ?_) (fun hc4 => ?_)
    · rw [if_neg hc4] at h
      refine am_ev_go (pc' := 24) (L' := [some (.ref 84), some (.int a1), some (.int a2)]) (st' := [.int (0 : Int32)]) (sh' := sh_A) (M' := M) 1 rfl ?_
      cases h
      exact am_ev_ret rfl
    · rw [if_pos hc4] at h
      refine am_ev_go (pc' := 24) (L' := [some (.ref 84), some (.int a1), some (.int a2)]) (st' := [.int (1 : Int32)]) (sh' := sh_A) (M' := M) 2 rfl ?_
      cases h
      exact am_ev_ret rfl
def fd_118_55 (k2 : Int32 → Int32 → am_M → Option (am_M)) (x1 : Int32) (x2 : Int32) (M : am_M) : Option (am_M) := k2 x1 (x2 + (1 : Int32)) M
theorem te_118_55 {L : Nat} {xs : Nat → Int32} {k2 : Int32 → Int32 → am_M → Option (am_M)} (hk2 : ∀ (x1 : Int32) (x2 : Int32) (M : am_M) (q : am_M), k2 x1 x2 M = some q → am_ev (tb_P L xs) 118 2 [some (.ref 94), some (.int x1), some (.int x2)] [] sh_A M (none, sh_A, q)) (x1 : Int32) (x2 : Int32) (M : am_M) (q : am_M) (h : fd_118_55 k2 x1 x2 M = some q) : am_ev (tb_P L xs) 118 55 [some (.ref 94), some (.int x1), some (.int x2)] [] sh_A M (none, sh_A, q) := by
  unfold fd_118_55 at h
  refine am_ev_go (pc' := 2) (L' := [some (.ref 94), some (.int x1), some (.int (x2 + (1 : Int32)))]) (st' := []) (sh' := sh_A) (M' := M) 2 rfl ?_
  exact hk2 _ _ _ _ h
def fd_118_2 (f : Nat) : Int32 → Int32 → am_M → Option (am_M) := Nat.rec (motive := fun _ => Int32 → Int32 → am_M → Option (am_M)) (fun _ _ _ => none) (fun _ k2 => fun x1 x2 M => (fd_119 M).bind fun q1 => if q1.1 ≤ x2 then (some q1.2) else ((fd_120 x2 x1 q1.2).bind fun q4 => if q4.1 = (0 : Int32) then (fd_118_55 k2 x1 x2 q4.2) else ((fd_71 x2 q4.2).bind fun q7 => (fd_72 x2 q7.2).bind fun q9 => (fd_43 q9.1 q9.2).bind fun q11 => (fd_77 q7.1 q11.1 q11.2).bind fun q13 => fd_118_55 k2 x1 x2 q13))) f
theorem te_118_2 {L : Nat} {xs : Nat → Int32} : ∀ (f : Nat) (x1 : Int32) (x2 : Int32) (M : am_M) (q : am_M), fd_118_2 f x1 x2 M = some q → am_ev (tb_P L xs) 118 2 [some (.ref 94), some (.int x1), some (.int x2)] [] sh_A M (none, sh_A, q) := by
  intro f
  induction f with
  | zero => intro x1 x2 M q h; cases h
  | succ f hk2 =>
    intro x1 x2 M q h
    change ((fd_119 M).bind fun q1 => if q1.1 ≤ x2 then (some q1.2) else ((fd_120 x2 x1 q1.2).bind fun q4 => if q4.1 = (0 : Int32) then (fd_118_55 (fd_118_2 f) x1 x2 q4.2) else ((fd_71 x2 q4.2).bind fun q7 => (fd_72 x2 q7.2).bind fun q9 => (fd_43 q9.1 q9.2).bind fun q11 => (fd_77 q7.1 q11.1 q11.2).bind fun q13 => fd_118_55 (fd_118_2 f) x1 x2 q13))) = some q at h
    refine am_ev_go (pc' := 7) (L' := [some (.ref 94), some (.int x1), some (.int x2)]) (st' := [.ref 84, .int x2]) (sh' := sh_A) (M' := M) 3 rfl ?_
    obtain ⟨q1, hq2, h⟩ := Option.bind_eq_some_iff.mp h
    refine am_ev_call (mj := 119) (as := [.ref 84]) (rest := [.int x2]) (rv := some (.int q1.1)) (sh' := sh_A) (M' := q1.2) rfl (te_119 _ _ hq2) ?_
    show am_ev _ 118 10 [some (.ref 94), some (.int x1), some (.int x2)] [.int q1.1, .int x2] sh_A q1.2 _
    refine am_ev_go (pc' := (am_br .ge x2 q1.1 61 13)) (L' := [some (.ref 94), some (.int x1), some (.int x2)]) (st' := []) (sh' := sh_A) (M' := q1.2) 1 rfl ?_
    refine ev_ge (fun hc3 => ?_) (fun hc3 => ?_)
    · rw [if_pos hc3] at h
      cases h
      exact am_ev_ret rfl
    · rw [if_neg hc3] at h
      refine am_ev_go (pc' := 19) (L' := [some (.ref 94), some (.int x1), some (.int x2)]) (st' := [.int x1, .int x2, .ref 84]) (sh' := sh_A) (M' := q1.2) 4 rfl ?_
      obtain ⟨q4, hq5, h⟩ := Option.bind_eq_some_iff.mp h
      refine am_ev_call (mj := 120) (as := [.ref 84, .int x2, .int x1]) (rest := []) (rv := some (.int q4.1)) (sh' := sh_A) (M' := q4.2) rfl (te_120 _ _ _ _ hq5) ?_
      show am_ev _ 118 22 [some (.ref 94), some (.int x1), some (.int x2)] [.int q4.1] sh_A q4.2 _
      refine am_ev_go (pc' := (am_br .eq q4.1 0 55 25)) (L' := [some (.ref 94), some (.int x1), some (.int x2)]) (st' := []) (sh' := sh_A) (M' := q4.2) 1 rfl ?_
      refine ev_eq (fun hc6 => ?_) (fun hc6 => ?_)
      · rw [if_pos hc6] at h
        exact te_118_55 hk2 _ _ _ _ h
      · rw [if_neg hc6] at h
        refine am_ev_go (pc' := 34) (L' := [some (.ref 94), some (.int x1), some (.int x2)]) (st' := [.int x2, .ref 84, .ref 89]) (sh' := sh_A) (M' := q4.2) 5 rfl ?_
        obtain ⟨q7, hq8, h⟩ := Option.bind_eq_some_iff.mp h
        refine am_ev_call (mj := 71) (as := [.ref 84, .int x2]) (rest := [.ref 89]) (rv := some (.int q7.1)) (sh' := sh_A) (M' := q7.2) rfl (te_71 _ _ _ hq8) ?_
        show am_ev _ 118 37 [some (.ref 94), some (.int x1), some (.int x2)] [.int q7.1, .ref 89] sh_A q7.2 _
        refine am_ev_go (pc' := 46) (L' := [some (.ref 94), some (.int x1), some (.int x2)]) (st' := [.int x2, .ref 84, .ref 1, .int q7.1, .ref 89]) (sh' := sh_A) (M' := q7.2) 5 rfl ?_
        obtain ⟨q9, hq10, h⟩ := Option.bind_eq_some_iff.mp h
        refine am_ev_call (mj := 72) (as := [.ref 84, .int x2]) (rest := [.ref 1, .int q7.1, .ref 89]) (rv := some (.int q9.1)) (sh' := sh_A) (M' := q9.2) rfl (te_72 _ _ _ hq10) ?_
        show am_ev _ 118 49 [some (.ref 94), some (.int x1), some (.int x2)] [.int q9.1, .ref 1, .int q7.1, .ref 89] sh_A q9.2 _
        obtain ⟨q11, hq12, h⟩ := Option.bind_eq_some_iff.mp h
        refine am_ev_call (mj := 43) (as := [.ref 1, .int q9.1]) (rest := [.int q7.1, .ref 89]) (rv := some (.int q11.1)) (sh' := sh_A) (M' := q11.2) rfl (te_43 _ _ _ hq12) ?_
        show am_ev _ 118 52 [some (.ref 94), some (.int x1), some (.int x2)] [.int q11.1, .int q7.1, .ref 89] sh_A q11.2 _
        obtain ⟨q13, hq14, h⟩ := Option.bind_eq_some_iff.mp h
        refine am_ev_call (mj := 77) (as := [.ref 89, .int q7.1, .int q11.1]) (rest := []) (rv := none) (sh' := sh_A) (M' := q13) rfl (te_77 _ _ _ _ hq14) ?_
        show am_ev _ 118 55 [some (.ref 94), some (.int x1), some (.int x2)] [] sh_A q13 _
        exact te_118_55 hk2 _ _ _ _ h
/-- CountedActors$Machine.meetCalls(I)V -/
def fd_118 (a1 : Int32) (M : am_M) : Option (am_M) := fd_118_2 1000 a1 (0 : Int32) M
theorem te_118 {L : Nat} {xs : Nat → Int32} (a1 : Int32) (M : am_M) (q : am_M) (h : fd_118 a1 M = some q) : am_ev (tb_P L xs) 118 0 [some (.ref 94), some (.int a1), none] [] sh_A M (none, sh_A, q) := by
  unfold fd_118 at h
  refine am_ev_go (pc' := 2) (L' := [some (.ref 94), some (.int a1), some (.int (0 : Int32))]) (st' := []) (sh' := sh_A) (M' := M) 2 rfl ?_
  exact te_118_2 1000 _ _ _ _ h
def fd_121_42 (k2 : Int32 → am_M → Option (am_M)) (f : Nat) : Int32 → Int32 → Int32 → Int32 → am_M → Option (am_M) := Nat.rec (motive := fun _ => Int32 → Int32 → Int32 → Int32 → am_M → Option (am_M)) (fun _ _ _ _ _ => none) (fun _ k42 => fun x1 x2 x3 x4 M => if (6 : Int32) ≤ x4 then (k2 (x1 + (1 : Int32)) M) else ((fd_79 x2 x4 M).bind fun q2 => (fd_48 x3 x4 q2.2).bind fun q4 => (fd_77 q2.1 q4.1 q4.2).bind fun q6 => k42 x1 x2 x3 (x4 + (1 : Int32)) q6)) f
theorem te_121_42 {L : Nat} {xs : Nat → Int32} {k2 : Int32 → am_M → Option (am_M)} (hk2 : ∀ (x1 : Int32) (M : am_M) (q : am_M) (e2 e3 e4 : Option Value), k2 x1 M = some q → am_ev (tb_P L xs) 121 2 [some (.ref 89), some (.int x1), e2, e3, e4] [] sh_A M (none, sh_A, q)) : ∀ (f : Nat) (x1 : Int32) (x2 : Int32) (x3 : Int32) (x4 : Int32) (M : am_M) (q : am_M), fd_121_42 k2 f x1 x2 x3 x4 M = some q → am_ev (tb_P L xs) 121 42 [some (.ref 89), some (.int x1), some (.int x2), some (.int x3), some (.int x4)] [] sh_A M (none, sh_A, q) := by
  intro f
  induction f with
  | zero => intro x1 x2 x3 x4 M q h; cases h
  | succ f hk42 =>
    intro x1 x2 x3 x4 M q h
    change (if (6 : Int32) ≤ x4 then (k2 (x1 + (1 : Int32)) M) else ((fd_79 x2 x4 M).bind fun q2 => (fd_48 x3 x4 q2.2).bind fun q4 => (fd_77 q2.1 q4.1 q4.2).bind fun q6 => (fd_121_42 k2 f) x1 x2 x3 (x4 + (1 : Int32)) q6)) = some q at h
    refine am_ev_go (pc' := (am_br .ge x4 (6 : Int32) 75 49)) (L' := [some (.ref 89), some (.int x1), some (.int x2), some (.int x3), some (.int x4)]) (st' := []) (sh' := sh_A) (M' := M) 3 rfl ?_
    refine ev_ge (fun hc1 => ?_) (fun hc1 => ?_)
    · rw [if_pos hc1] at h
      refine am_ev_go (pc' := 2) (L' := [some (.ref 89), some (.int (x1 + (1 : Int32))), some (.int x2), some (.int x3), some (.int x4)]) (st' := []) (sh' := sh_A) (M' := M) 2 rfl ?_
      exact hk2 _ _ _ _ _ _ h
    · rw [if_neg hc1] at h
      refine am_ev_go (pc' := 57) (L' := [some (.ref 89), some (.int x1), some (.int x2), some (.int x3), some (.int x4)]) (st' := [.int x4, .int x2, .ref 79, .ref 89]) (sh' := sh_A) (M' := M) 5 rfl ?_
      obtain ⟨q2, hq3, h⟩ := Option.bind_eq_some_iff.mp h
      refine am_ev_call (mj := 79) (as := [.ref 79, .int x2, .int x4]) (rest := [.ref 89]) (rv := some (.int q2.1)) (sh' := sh_A) (M' := q2.2) rfl (te_79 _ _ _ _ hq3) ?_
      show am_ev _ 121 60 [some (.ref 89), some (.int x1), some (.int x2), some (.int x3), some (.int x4)] [.int q2.1, .ref 89] sh_A q2.2 _
      refine am_ev_go (pc' := 63) (L' := [some (.ref 89), some (.int x1), some (.int x2), some (.int x3), some (.int x4)]) (st' := [.int x4, .int x3, .int q2.1, .ref 89]) (sh' := sh_A) (M' := q2.2) 2 rfl ?_
      obtain ⟨q4, hq5, h⟩ := Option.bind_eq_some_iff.mp h
      refine am_ev_call (mj := 48) (as := [.int x3, .int x4]) (rest := [.int q2.1, .ref 89]) (rv := some (.int q4.1)) (sh' := sh_A) (M' := q4.2) rfl (te_48 _ _ _ _ hq5) ?_
      show am_ev _ 121 66 [some (.ref 89), some (.int x1), some (.int x2), some (.int x3), some (.int x4)] [.int q4.1, .int q2.1, .ref 89] sh_A q4.2 _
      obtain ⟨q6, hq7, h⟩ := Option.bind_eq_some_iff.mp h
      refine am_ev_call (mj := 77) (as := [.ref 89, .int q2.1, .int q4.1]) (rest := []) (rv := none) (sh' := sh_A) (M' := q6) rfl (te_77 _ _ _ _ hq7) ?_
      show am_ev _ 121 69 [some (.ref 89), some (.int x1), some (.int x2), some (.int x3), some (.int x4)] [] sh_A q6 _
      refine am_ev_go (pc' := 42) (L' := [some (.ref 89), some (.int x1), some (.int x2), some (.int x3), some (.int (x4 + (1 : Int32)))]) (st' := []) (sh' := sh_A) (M' := q6) 2 rfl ?_
      exact hk42 _ _ _ _ _ _ h
def fd_121_2 (f : Nat) : Int32 → am_M → Option (am_M) := Nat.rec (motive := fun _ => Int32 → am_M → Option (am_M)) (fun _ _ => none) (fun _ k2 => fun x1 M => if (M 89 3) ≤ x1 then (some M) else (if (96 : Int32) ≤ x1 then (some M) else (if x1 < 0 ∨ 96 ≤ x1.toNatClampNeg then none else if x1 < 0 ∨ 96 ≤ x1.toNatClampNeg then none else fd_121_42 k2 1000 x1 ((M 91 x1.toNatClampNeg) / (6 : Int32)) ((M 91 x1.toNatClampNeg) - (M 91 x1.toNatClampNeg) / (6 : Int32) * (6 : Int32)) (0 : Int32) M))) f
theorem te_121_2 {L : Nat} {xs : Nat → Int32} : ∀ (f : Nat) (x1 : Int32) (M : am_M) (q : am_M) (d2 d3 d4 : Option Value), fd_121_2 f x1 M = some q → am_ev (tb_P L xs) 121 2 [some (.ref 89), some (.int x1), d2, d3, d4] [] sh_A M (none, sh_A, q) := by
  intro f
  induction f with
  | zero => intro x1 M q d2 d3 d4 h; cases h
  | succ f hk2 =>
    intro x1 M q d2 d3 d4 h
    change (if (M 89 3) ≤ x1 then (some M) else (if (96 : Int32) ≤ x1 then (some M) else (if x1 < 0 ∨ 96 ≤ x1.toNatClampNeg then none else if x1 < 0 ∨ 96 ≤ x1.toNatClampNeg then none else fd_121_42 (fd_121_2 f) 1000 x1 ((M 91 x1.toNatClampNeg) / (6 : Int32)) ((M 91 x1.toNatClampNeg) - (M 91 x1.toNatClampNeg) / (6 : Int32) * (6 : Int32)) (0 : Int32) M))) = some q at h
    refine am_ev_go (pc' := (am_br .ge x1 (M 89 3) 81 10)) (L' := [some (.ref 89), some (.int x1), d2, d3, d4]) (st' := []) (sh' := sh_A) (M' := M) 4 rfl ?_
    refine ev_ge (fun hc1 => ?_) (fun hc1 => ?_)
    · rw [if_pos hc1] at h
      cases h
      exact am_ev_ret rfl
    · rw [if_neg hc1] at h
      refine am_ev_go (pc' := (am_br .ge x1 (96 : Int32) 81 19)) (L' := [some (.ref 89), some (.int x1), d2, d3, d4]) (st' := []) (sh' := sh_A) (M' := M) 5 rfl ?_
      refine ev_ge (fun hc2 => ?_) (fun hc2 => ?_)
      · rw [if_pos hc2] at h
        cases h
        exact am_ev_ret rfl
      · rw [if_neg hc2] at h
        refine am_ev_go (pc' := 24) (L' := [some (.ref 89), some (.int x1), d2, d3, d4]) (st' := [.int x1, .ref 91]) (sh' := sh_A) (M' := M) 3 rfl ?_
        by_cases hg3 : x1 < 0 ∨ 96 ≤ x1.toNatClampNeg
        case pos => rw [if_pos hg3] at h; cases h
        rw [if_neg hg3] at h
        refine ev_iald rfl rfl hg3 ?_
        refine am_ev_go (pc' := 34) (L' := [some (.ref 89), some (.int x1), some (.int ((M 91 x1.toNatClampNeg) / (6 : Int32))), d3, d4]) (st' := [.int x1, .ref 91]) (sh' := sh_A) (M' := M) 6 rfl ?_
        by_cases hg4 : x1 < 0 ∨ 96 ≤ x1.toNatClampNeg
        case pos => rw [if_pos hg4] at h; cases h
        rw [if_neg hg4] at h
        refine ev_iald rfl rfl hg4 ?_
        refine am_ev_go (pc' := 42) (L' := [some (.ref 89), some (.int x1), some (.int ((M 91 x1.toNatClampNeg) / (6 : Int32))), some (.int ((M 91 x1.toNatClampNeg) - (M 91 x1.toNatClampNeg) / (6 : Int32) * (6 : Int32))), some (.int (0 : Int32))]) (st' := []) (sh' := sh_A) (M' := M) 5 rfl ?_
        exact te_121_42 hk2 1000 _ _ _ _ _ _ h
/-- CountedActors$Walk.followByView()V -/
def fd_121 (M : am_M) : Option (am_M) := fd_121_2 1000 (0 : Int32) M
theorem te_121 {L : Nat} {xs : Nat → Int32} (M : am_M) (q : am_M) (h : fd_121  M = some q) : am_ev (tb_P L xs) 121 0 [some (.ref 89), none, none, none, none] [] sh_A M (none, sh_A, q) := by
  unfold fd_121 at h
  refine am_ev_go (pc' := 2) (L' := [some (.ref 89), some (.int (0 : Int32)), none, none, none]) (st' := []) (sh' := sh_A) (M' := M) 2 rfl ?_
  exact te_121_2 1000 _ _ _ _ _ _ h
def fd_122_29 (x1 : Int32) (x2 : Int32) (M : am_M) : Option (Int32 × am_M) := if x1 < 0 ∨ 16 ≤ x1.toNatClampNeg then none else if ((M 90 x1.toNatClampNeg) &&& (7 : Int32)) = (0 : Int32) then (some (x2, M)) else (some ((x2 + (4 : Int32)), M))
theorem te_122_29 {L : Nat} {xs : Nat → Int32} (x1 : Int32) (x2 : Int32) (M : am_M) (q : Int32 × am_M) (h : fd_122_29 x1 x2 M = some q) : am_ev (tb_P L xs) 122 29 [some (.ref 89), some (.int x1), some (.int x2)] [] sh_A M (some (.int q.1), sh_A, q.2) := by
  unfold fd_122_29 at h
  refine am_ev_go (pc' := 34) (L' := [some (.ref 89), some (.int x1), some (.int x2)]) (st' := [.int x1, .ref 90]) (sh' := sh_A) (M' := M) 3 rfl ?_
  by_cases hg1 : x1 < 0 ∨ 16 ≤ x1.toNatClampNeg
  case pos => rw [if_pos hg1] at h; cases h
  rw [if_neg hg1] at h
  refine ev_iald rfl rfl hg1 ?_
  refine am_ev_go (pc' := (am_br .eq ((M 90 x1.toNatClampNeg) &&& (7 : Int32)) 0 44 41)) (L' := [some (.ref 89), some (.int x1), some (.int x2)]) (st' := []) (sh' := sh_A) (M' := M) 3 rfl ?_
  refine ev_eq (fun hc2 => ?_) (fun hc2 => ?_)
  · rw [if_pos hc2] at h
    refine am_ev_go (pc' := 45) (L' := [some (.ref 89), some (.int x1), some (.int x2)]) (st' := [.int x2]) (sh' := sh_A) (M' := M) 1 rfl ?_
    cases h
    exact am_ev_ret rfl
  · rw [if_neg hc2] at h
    refine am_ev_go (pc' := 45) (L' := [some (.ref 89), some (.int x1), some (.int (x2 + (4 : Int32)))]) (st' := [.int (x2 + (4 : Int32))]) (sh' := sh_A) (M' := M) 2 rfl ?_
    cases h
    exact am_ev_ret rfl
def fd_122_13 (x1 : Int32) (y0 : Int32) (M : am_M) : Option (Int32 × am_M) := if x1 < 0 ∨ 16 ≤ x1.toNatClampNeg then none else if ((M 90 x1.toNatClampNeg) &&& (31 : Int32)) = (0 : Int32) then (fd_122_29 x1 y0 M) else (fd_122_29 x1 (y0 + (2 : Int32)) M)
theorem te_122_13 {L : Nat} {xs : Nat → Int32} (x1 : Int32) (y0 : Int32) (M : am_M) (q : Int32 × am_M) (d2 : Option Value) (h : fd_122_13 x1 y0 M = some q) : am_ev (tb_P L xs) 122 13 [some (.ref 89), some (.int x1), d2] [.int y0] sh_A M (some (.int q.1), sh_A, q.2) := by
  unfold fd_122_13 at h
  refine am_ev_go (pc' := 19) (L' := [some (.ref 89), some (.int x1), some (.int y0)]) (st' := [.int x1, .ref 90]) (sh' := sh_A) (M' := M) 4 rfl ?_
  by_cases hg1 : x1 < 0 ∨ 16 ≤ x1.toNatClampNeg
  case pos => rw [if_pos hg1] at h; cases h
  rw [if_neg hg1] at h
  refine ev_iald rfl rfl hg1 ?_
  refine am_ev_go (pc' := (am_br .eq ((M 90 x1.toNatClampNeg) &&& (31 : Int32)) 0 29 26)) (L' := [some (.ref 89), some (.int x1), some (.int y0)]) (st' := []) (sh' := sh_A) (M' := M) 3 rfl ?_
  refine ev_eq (fun hc2 => ?_) (fun hc2 => ?_)
  · rw [if_pos hc2] at h
    exact te_122_29 _ _ _ _ h
  · rw [if_neg hc2] at h
    refine am_ev_go (pc' := 29) (L' := [some (.ref 89), some (.int x1), some (.int (y0 + (2 : Int32)))]) (st' := []) (sh' := sh_A) (M' := M) 1 rfl ?_
    exact te_122_29 _ _ _ _ h
/-- CountedActors$Walk.rightsOver(I)I -/
def fd_122 (a1 : Int32) (M : am_M) : Option (Int32 × am_M) := (fd_80 a1 M).bind fun q1 => if q1.1 = (0 : Int32) then (fd_122_13 a1 (0 : Int32) q1.2) else (fd_122_13 a1 (1 : Int32) q1.2)
theorem te_122 {L : Nat} {xs : Nat → Int32} (a1 : Int32) (M : am_M) (q : Int32 × am_M) (h : fd_122 a1 M = some q) : am_ev (tb_P L xs) 122 0 [some (.ref 89), some (.int a1), none] [] sh_A M (some (.int q.1), sh_A, q.2) := by
  unfold fd_122 at h
  refine am_ev_go (pc' := 2) (L' := [some (.ref 89), some (.int a1), none]) (st' := [.int a1, .ref 89]) (sh' := sh_A) (M' := M) 2 rfl ?_
  obtain ⟨q1, hq2, h⟩ := Option.bind_eq_some_iff.mp h
  refine am_ev_call (mj := 80) (as := [.ref 89, .int a1]) (rest := []) (rv := some (.int q1.1)) (sh' := sh_A) (M' := q1.2) rfl (te_80 _ _ _ hq2) ?_
  show am_ev _ 122 5 [some (.ref 89), some (.int a1), none] [.int q1.1] sh_A q1.2 _
  refine am_ev_go (pc' := (am_br .eq q1.1 0 12 8)) (L' := [some (.ref 89), some (.int a1), none]) (st' := []) (sh' := sh_A) (M' := q1.2) 1 rfl ?_
  refine ev_eq (fun hc3 => ?_) (fun hc3 => ?_)
  · rw [if_pos hc3] at h
    refine am_ev_go (pc' := 13) (L' := [some (.ref 89), some (.int a1), none]) (st' := [.int (0 : Int32)]) (sh' := sh_A) (M' := q1.2) 1 rfl ?_
    exact te_122_13 _ _ _ _ _ h
  · rw [if_neg hc3] at h
    refine am_ev_go (pc' := 13) (L' := [some (.ref 89), some (.int a1), none]) (st' := [.int (1 : Int32)]) (sh' := sh_A) (M' := q1.2) 2 rfl ?_
    exact te_122_13 _ _ _ _ _ h
/-- CountedActors.rights(II)I -/
def fd_117 (a1 : Int32) (a2 : Int32) (M : am_M) : Option (Int32 × am_M) := (fd_63 a1 M).bind fun q1 => if q1.1 = (0 : Int32) then (some ((0 : Int32), q1.2)) else ((fd_107 a2 q1.2).bind fun q4 => if q4.1 = (0 : Int32) then (some ((0 : Int32), q4.2)) else ((fd_76 q4.2).bind fun q7 => (fd_105 a1 q7).bind fun q9 => (fd_118 a1 q9).bind fun q11 => (fd_121 q11).bind fun q13 => (fd_122 a2 q13).bind fun q15 => some (q15.1, q15.2)))
theorem te_117 {L : Nat} {xs : Nat → Int32} (a1 : Int32) (a2 : Int32) (M : am_M) (q : Int32 × am_M) (h : fd_117 a1 a2 M = some q) : am_ev (tb_P L xs) 117 0 [some (.ref 0), some (.int a1), some (.int a2)] [] sh_A M (some (.int q.1), sh_A, q.2) := by
  unfold fd_117 at h
  refine am_ev_go (pc' := 2) (L' := [some (.ref 0), some (.int a1), some (.int a2)]) (st' := [.int a1, .ref 0]) (sh' := sh_A) (M' := M) 2 rfl ?_
  obtain ⟨q1, hq2, h⟩ := Option.bind_eq_some_iff.mp h
  refine am_ev_call (mj := 63) (as := [.ref 0, .int a1]) (rest := []) (rv := some (.int q1.1)) (sh' := sh_A) (M' := q1.2) rfl (te_63 _ _ _ hq2) ?_
  show am_ev _ 117 5 [some (.ref 0), some (.int a1), some (.int a2)] [.int q1.1] sh_A q1.2 _
  refine am_ev_go (pc' := (am_br .eq q1.1 0 19 8)) (L' := [some (.ref 0), some (.int a1), some (.int a2)]) (st' := []) (sh' := sh_A) (M' := q1.2) 1 rfl ?_
  refine ev_eq (fun hc3 => ?_) (fun hc3 => ?_)
  · rw [if_pos hc3] at h
    refine am_ev_go (pc' := 20) (L' := [some (.ref 0), some (.int a1), some (.int a2)]) (st' := [.int (0 : Int32)]) (sh' := sh_A) (M' := q1.2) 1 rfl ?_
    cases h
    exact am_ev_ret rfl
  · rw [if_neg hc3] at h
    refine am_ev_go (pc' := 13) (L' := [some (.ref 0), some (.int a1), some (.int a2)]) (st' := [.int a2, .ref 79]) (sh' := sh_A) (M' := q1.2) 3 rfl ?_
    obtain ⟨q4, hq5, h⟩ := Option.bind_eq_some_iff.mp h
    refine am_ev_call (mj := 107) (as := [.ref 79, .int a2]) (rest := []) (rv := some (.int q4.1)) (sh' := sh_A) (M' := q4.2) rfl (te_107 _ _ _ hq5) ?_
    show am_ev _ 117 16 [some (.ref 0), some (.int a1), some (.int a2)] [.int q4.1] sh_A q4.2 _
    refine am_ev_go (pc' := (am_br .ne q4.1 0 21 19)) (L' := [some (.ref 0), some (.int a1), some (.int a2)]) (st' := []) (sh' := sh_A) (M' := q4.2) 1 rfl ?_
    refine ev_ne (fun hc6 => ?_) (fun hc6 => ?_)
    · rw [if_neg hc6] at h
      refine am_ev_go (pc' := 25) (L' := [some (.ref 0), some (.int a1), some (.int a2)]) (st' := [.ref 89]) (sh' := sh_A) (M' := q4.2) 2 rfl ?_
      obtain ⟨q7, hq8, h⟩ := Option.bind_eq_some_iff.mp h
      refine am_ev_call (mj := 76) (as := [.ref 89]) (rest := []) (rv := none) (sh' := sh_A) (M' := q7) rfl (te_76 _ _ hq8) ?_
      show am_ev _ 117 28 [some (.ref 0), some (.int a1), some (.int a2)] [] sh_A q7 _
      refine am_ev_go (pc' := 33) (L' := [some (.ref 0), some (.int a1), some (.int a2)]) (st' := [.int a1, .ref 94]) (sh' := sh_A) (M' := q7) 3 rfl ?_
      obtain ⟨q9, hq10, h⟩ := Option.bind_eq_some_iff.mp h
      refine am_ev_call (mj := 105) (as := [.ref 94, .int a1]) (rest := []) (rv := none) (sh' := sh_A) (M' := q9) rfl (te_105 _ _ _ hq10) ?_
      show am_ev _ 117 36 [some (.ref 0), some (.int a1), some (.int a2)] [] sh_A q9 _
      refine am_ev_go (pc' := 41) (L' := [some (.ref 0), some (.int a1), some (.int a2)]) (st' := [.int a1, .ref 94]) (sh' := sh_A) (M' := q9) 3 rfl ?_
      obtain ⟨q11, hq12, h⟩ := Option.bind_eq_some_iff.mp h
      refine am_ev_call (mj := 118) (as := [.ref 94, .int a1]) (rest := []) (rv := none) (sh' := sh_A) (M' := q11) rfl (te_118 _ _ _ hq12) ?_
      show am_ev _ 117 44 [some (.ref 0), some (.int a1), some (.int a2)] [] sh_A q11 _
      refine am_ev_go (pc' := 48) (L' := [some (.ref 0), some (.int a1), some (.int a2)]) (st' := [.ref 89]) (sh' := sh_A) (M' := q11) 2 rfl ?_
      obtain ⟨q13, hq14, h⟩ := Option.bind_eq_some_iff.mp h
      refine am_ev_call (mj := 121) (as := [.ref 89]) (rest := []) (rv := none) (sh' := sh_A) (M' := q13) rfl (te_121 _ _ hq14) ?_
      show am_ev _ 117 51 [some (.ref 0), some (.int a1), some (.int a2)] [] sh_A q13 _
      refine am_ev_go (pc' := 56) (L' := [some (.ref 0), some (.int a1), some (.int a2)]) (st' := [.int a2, .ref 89]) (sh' := sh_A) (M' := q13) 3 rfl ?_
      obtain ⟨q15, hq16, h⟩ := Option.bind_eq_some_iff.mp h
      refine am_ev_call (mj := 122) (as := [.ref 89, .int a2]) (rest := []) (rv := some (.int q15.1)) (sh' := sh_A) (M' := q15.2) rfl (te_122 _ _ _ hq16) ?_
      show am_ev _ 117 59 [some (.ref 0), some (.int a1), some (.int a2)] [.int q15.1] sh_A q15.2 _
      cases h
      exact am_ev_ret rfl
    · rw [if_pos hc6] at h
      refine am_ev_go (pc' := 20) (L' := [some (.ref 0), some (.int a1), some (.int a2)]) (st' := [.int (0 : Int32)]) (sh' := sh_A) (M' := q4.2) 1 rfl ?_
      cases h
      exact am_ev_ret rfl
/-- CountedActors$Display.times()I -/
def fd_124 (M : am_M) : Option (Int32 × am_M) := some ((M 92 1), M)
theorem te_124 {L : Nat} {xs : Nat → Int32} (M : am_M) (q : Int32 × am_M) (h : fd_124  M = some q) : am_ev (tb_P L xs) 124 0 [some (.ref 92)] [] sh_A M (some (.int q.1), sh_A, q.2) := by
  unfold fd_124 at h
  refine am_ev_go (pc' := 4) (L' := [some (.ref 92)]) (st' := [.int (M 92 1)]) (sh' := sh_A) (M' := M) 2 rfl ?_
  cases h
  exact am_ev_ret rfl
/-- CountedActors$Display.latest(I)I -/
def fd_125 (a1 : Int32) (M : am_M) : Option (Int32 × am_M) := if a1 < (0 : Int32) then (some ((0 : Int32), M)) else (if (16 : Int32) ≤ a1 then (some ((0 : Int32), M)) else (if a1 < (M 92 1) then (if (((M 92 1) - (1 : Int32)) - a1) < 0 then none else if ((((M 92 1) - (1 : Int32)) - a1) - (((M 92 1) - (1 : Int32)) - a1) / 16 * 16) < 0 ∨ 16 ≤ ((((M 92 1) - (1 : Int32)) - a1) - (((M 92 1) - (1 : Int32)) - a1) / 16 * 16).toNatClampNeg then none else some ((M 93 ((((M 92 1) - (1 : Int32)) - a1) - (((M 92 1) - (1 : Int32)) - a1) / 16 * 16).toNatClampNeg), M)) else (some ((0 : Int32), M))))
theorem te_125 {L : Nat} {xs : Nat → Int32} (a1 : Int32) (M : am_M) (q : Int32 × am_M) (h : fd_125 a1 M = some q) : am_ev (tb_P L xs) 125 0 [some (.ref 92), some (.int a1)] [] sh_A M (some (.int q.1), sh_A, q.2) := by
  unfold fd_125 at h
  refine am_ev_go (pc' := (am_br .lt a1 0 18 4)) (L' := [some (.ref 92), some (.int a1)]) (st' := []) (sh' := sh_A) (M' := M) 2 rfl ?_
  refine ev_lt (fun hc1 => ?_) (fun hc1 => ?_)
  · rw [if_pos hc1] at h
    refine am_ev_go (pc' := 19) (L' := [some (.ref 92), some (.int a1)]) (st' := [.int (0 : Int32)]) (sh' := sh_A) (M' := M) 1 rfl ?_
    cases h
    exact am_ev_ret rfl
  · rw [if_neg hc1] at h
    refine am_ev_go (pc' := (am_br .ge a1 (16 : Int32) 18 10)) (L' := [some (.ref 92), some (.int a1)]) (st' := []) (sh' := sh_A) (M' := M) 3 rfl ?_
    refine ev_ge (fun hc2 => ?_) (fun hc2 => ?_)
    · rw [if_pos hc2] at h
      refine am_ev_go (pc' := 19) (L' := [some (.ref 92), some (.int a1)]) (st' := [.int (0 : Int32)]) (sh' := sh_A) (M' := M) 1 rfl ?_
      cases h
      exact am_ev_ret rfl
    · rw [if_neg hc2] at h
      refine am_ev_go (pc' := (am_br .lt a1 (M 92 1) 20 18)) (L' := [some (.ref 92), some (.int a1)]) (st' := []) (sh' := sh_A) (M' := M) 4 rfl ?_
      refine ev_lt (fun hc3 => ?_) (fun hc3 => ?_)
      · rw [if_pos hc3] at h
        refine am_ev_go (pc' := 34) (L' := [some (.ref 92), some (.int a1)]) (st' := [.int (16 : Int32), .int (((M 92 1) - (1 : Int32)) - a1), .ref 93]) (sh' := sh_A) (M' := M) 9 rfl ?_
        by_cases hg4 : (((M 92 1) - (1 : Int32)) - a1) < 0
        case pos => rw [if_pos hg4] at h; cases h
        rw [if_neg hg4] at h
        refine ev_fmod rfl rfl hg4 (by decide) ?_
        by_cases hg5 : ((((M 92 1) - (1 : Int32)) - a1) - (((M 92 1) - (1 : Int32)) - a1) / 16 * 16) < 0 ∨ 16 ≤ ((((M 92 1) - (1 : Int32)) - a1) - (((M 92 1) - (1 : Int32)) - a1) / 16 * 16).toNatClampNeg
        case pos => rw [if_pos hg5] at h; cases h
        rw [if_neg hg5] at h
        refine ev_iald rfl rfl hg5 ?_
        cases h
        exact am_ev_ret rfl
      · rw [if_neg hc3] at h
        refine am_ev_go (pc' := 19) (L' := [some (.ref 92), some (.int a1)]) (st' := [.int (0 : Int32)]) (sh' := sh_A) (M' := M) 1 rfl ?_
        cases h
        exact am_ev_ret rfl
/-- CountedActors.shown(I)I -/
def fd_123 (a1 : Int32) (M : am_M) : Option (Int32 × am_M) := if a1 = (-1 : Int32) then ((fd_124 M).bind fun q4 => some (q4.1, q4.2)) else ((fd_125 a1 M).bind fun q2 => some (q2.1, q2.2))
theorem te_123 {L : Nat} {xs : Nat → Int32} (a1 : Int32) (M : am_M) (q : Int32 × am_M) (h : fd_123 a1 M = some q) : am_ev (tb_P L xs) 123 0 [some (.ref 0), some (.int a1)] [] sh_A M (some (.int q.1), sh_A, q.2) := by
  unfold fd_123 at h
  refine am_ev_go (pc' := (am_br .ne a1 (-1 : Int32) 15 5)) (L' := [some (.ref 0), some (.int a1)]) (st' := []) (sh' := sh_A) (M' := M) 3 rfl ?_
  refine ev_ne (fun hc1 => ?_) (fun hc1 => ?_)
  · rw [if_neg hc1] at h
    refine am_ev_go (pc' := 20) (L' := [some (.ref 0), some (.int a1)]) (st' := [.int a1, .ref 92]) (sh' := sh_A) (M' := M) 3 rfl ?_
    obtain ⟨q2, hq3, h⟩ := Option.bind_eq_some_iff.mp h
    refine am_ev_call (mj := 125) (as := [.ref 92, .int a1]) (rest := []) (rv := some (.int q2.1)) (sh' := sh_A) (M' := q2.2) rfl (te_125 _ _ _ hq3) ?_
    show am_ev _ 123 23 [some (.ref 0), some (.int a1)] [.int q2.1] sh_A q2.2 _
    cases h
    exact am_ev_ret rfl
  · rw [if_pos hc1] at h
    refine am_ev_go (pc' := 9) (L' := [some (.ref 0), some (.int a1)]) (st' := [.ref 92]) (sh' := sh_A) (M' := M) 2 rfl ?_
    obtain ⟨q4, hq5, h⟩ := Option.bind_eq_some_iff.mp h
    refine am_ev_call (mj := 124) (as := [.ref 92]) (rest := []) (rv := some (.int q4.1)) (sh' := sh_A) (M' := q4.2) rfl (te_124 _ _ hq5) ?_
    show am_ev _ 123 12 [some (.ref 0), some (.int a1)] [.int q4.1] sh_A q4.2 _
    refine am_ev_go (pc' := 23) (L' := [some (.ref 0), some (.int a1)]) (st' := [.int q4.1]) (sh' := sh_A) (M' := q4.2) 1 rfl ?_
    cases h
    exact am_ev_ret rfl
def fd_126_81 (k50 : Int32 → Int32 → am_M → Option (Int32 × am_M)) (x1 : Int32) (x2 : Int32) (M : am_M) : Option (Int32 × am_M) := k50 x1 (x2 + (1 : Int32)) M
theorem te_126_81 {L : Nat} {xs : Nat → Int32} {k50 : Int32 → Int32 → am_M → Option (Int32 × am_M)} (hk50 : ∀ (x1 : Int32) (x2 : Int32) (M : am_M) (q : Int32 × am_M), k50 x1 x2 M = some q → am_ev (tb_P L xs) 126 50 [some (.ref 0), some (.int x1), some (.int x2)] [] sh_A M (some (.int q.1), sh_A, q.2)) (x1 : Int32) (x2 : Int32) (M : am_M) (q : Int32 × am_M) (h : fd_126_81 k50 x1 x2 M = some q) : am_ev (tb_P L xs) 126 81 [some (.ref 0), some (.int x1), some (.int x2)] [] sh_A M (some (.int q.1), sh_A, q.2) := by
  unfold fd_126_81 at h
  refine am_ev_go (pc' := 50) (L' := [some (.ref 0), some (.int x1), some (.int (x2 + (1 : Int32)))]) (st' := []) (sh' := sh_A) (M' := M) 2 rfl ?_
  exact hk50 _ _ _ _ h
def fd_126_50 (f : Nat) : Int32 → Int32 → am_M → Option (Int32 × am_M) := Nat.rec (motive := fun _ => Int32 → Int32 → am_M → Option (Int32 × am_M)) (fun _ _ _ => none) (fun _ k50 => fun x1 x2 M => if (16 : Int32) ≤ x2 then (some (x1, M)) else ((fd_107 x2 M).bind fun q2 => if q2.1 = (0 : Int32) then (fd_126_81 k50 x1 x2 q2.2) else ((fd_80 x2 q2.2).bind fun q5 => if q5.1 = (0 : Int32) then (fd_126_81 k50 (x1 + (1 : Int32)) x2 q5.2) else (fd_126_81 k50 x1 x2 q5.2)))) f
theorem te_126_50 {L : Nat} {xs : Nat → Int32} : ∀ (f : Nat) (x1 : Int32) (x2 : Int32) (M : am_M) (q : Int32 × am_M), fd_126_50 f x1 x2 M = some q → am_ev (tb_P L xs) 126 50 [some (.ref 0), some (.int x1), some (.int x2)] [] sh_A M (some (.int q.1), sh_A, q.2) := by
  intro f
  induction f with
  | zero => intro x1 x2 M q h; cases h
  | succ f hk50 =>
    intro x1 x2 M q h
    change (if (16 : Int32) ≤ x2 then (some (x1, M)) else ((fd_107 x2 M).bind fun q2 => if q2.1 = (0 : Int32) then (fd_126_81 (fd_126_50 f) x1 x2 q2.2) else ((fd_80 x2 q2.2).bind fun q5 => if q5.1 = (0 : Int32) then (fd_126_81 (fd_126_50 f) (x1 + (1 : Int32)) x2 q5.2) else (fd_126_81 (fd_126_50 f) x1 x2 q5.2)))) = some q at h
    refine am_ev_go (pc' := (am_br .ge x2 (16 : Int32) 87 56)) (L' := [some (.ref 0), some (.int x1), some (.int x2)]) (st' := []) (sh' := sh_A) (M' := M) 3 rfl ?_
    refine ev_ge (fun hc1 => ?_) (fun hc1 => ?_)
    · rw [if_pos hc1] at h
      refine am_ev_go (pc' := 88) (L' := [some (.ref 0), some (.int x1), some (.int x2)]) (st' := [.int x1]) (sh' := sh_A) (M' := M) 1 rfl ?_
      cases h
      exact am_ev_ret rfl
    · rw [if_neg hc1] at h
      refine am_ev_go (pc' := 61) (L' := [some (.ref 0), some (.int x1), some (.int x2)]) (st' := [.int x2, .ref 79]) (sh' := sh_A) (M' := M) 3 rfl ?_
      obtain ⟨q2, hq3, h⟩ := Option.bind_eq_some_iff.mp h
      refine am_ev_call (mj := 107) (as := [.ref 79, .int x2]) (rest := []) (rv := some (.int q2.1)) (sh' := sh_A) (M' := q2.2) rfl (te_107 _ _ _ hq3) ?_
      show am_ev _ 126 64 [some (.ref 0), some (.int x1), some (.int x2)] [.int q2.1] sh_A q2.2 _
      refine am_ev_go (pc' := (am_br .eq q2.1 0 81 67)) (L' := [some (.ref 0), some (.int x1), some (.int x2)]) (st' := []) (sh' := sh_A) (M' := q2.2) 1 rfl ?_
      refine ev_eq (fun hc4 => ?_) (fun hc4 => ?_)
      · rw [if_pos hc4] at h
        exact te_126_81 hk50 _ _ _ _ h
      · rw [if_neg hc4] at h
        refine am_ev_go (pc' := 72) (L' := [some (.ref 0), some (.int x1), some (.int x2)]) (st' := [.int x2, .ref 89]) (sh' := sh_A) (M' := q2.2) 3 rfl ?_
        obtain ⟨q5, hq6, h⟩ := Option.bind_eq_some_iff.mp h
        refine am_ev_call (mj := 80) (as := [.ref 89, .int x2]) (rest := []) (rv := some (.int q5.1)) (sh' := sh_A) (M' := q5.2) rfl (te_80 _ _ _ hq6) ?_
        show am_ev _ 126 75 [some (.ref 0), some (.int x1), some (.int x2)] [.int q5.1] sh_A q5.2 _
        refine am_ev_go (pc' := (am_br .ne q5.1 0 81 78)) (L' := [some (.ref 0), some (.int x1), some (.int x2)]) (st' := []) (sh' := sh_A) (M' := q5.2) 1 rfl ?_
        refine ev_ne (fun hc7 => ?_) (fun hc7 => ?_)
        · rw [if_neg hc7] at h
          exact te_126_81 hk50 _ _ _ _ h
        · rw [if_pos hc7] at h
          refine am_ev_go (pc' := 81) (L' := [some (.ref 0), some (.int (x1 + (1 : Int32))), some (.int x2)]) (st' := []) (sh' := sh_A) (M' := q5.2) 1 rfl ?_
          exact te_126_81 hk50 _ _ _ _ h
def fd_126_9 (f : Nat) : Int32 → am_M → Option (Int32 × am_M) := Nat.rec (motive := fun _ => Int32 → am_M → Option (Int32 × am_M)) (fun _ _ => none) (fun _ k9 => fun x1 M => if (M 0 0) ≤ x1 then ((fd_78 M).bind fun q2 => fd_126_50 1000 (0 : Int32) (0 : Int32) q2) else ((fd_105 x1 M).bind fun q4 => (fd_118 x1 q4).bind fun q6 => k9 (x1 + (1 : Int32)) q6)) f
theorem te_126_9 {L : Nat} {xs : Nat → Int32} : ∀ (f : Nat) (x1 : Int32) (M : am_M) (q : Int32 × am_M) (d2 : Option Value), fd_126_9 f x1 M = some q → am_ev (tb_P L xs) 126 9 [some (.ref 0), some (.int x1), d2] [] sh_A M (some (.int q.1), sh_A, q.2) := by
  intro f
  induction f with
  | zero => intro x1 M q d2 h; cases h
  | succ f hk9 =>
    intro x1 M q d2 h
    change (if (M 0 0) ≤ x1 then ((fd_78 M).bind fun q2 => fd_126_50 1000 (0 : Int32) (0 : Int32) q2) else ((fd_105 x1 M).bind fun q4 => (fd_118 x1 q4).bind fun q6 => (fd_126_9 f) (x1 + (1 : Int32)) q6)) = some q at h
    refine am_ev_go (pc' := (am_br .ge x1 (M 0 0) 39 17)) (L' := [some (.ref 0), some (.int x1), d2]) (st' := []) (sh' := sh_A) (M' := M) 4 rfl ?_
    refine ev_ge (fun hc1 => ?_) (fun hc1 => ?_)
    · rw [if_pos hc1] at h
      refine am_ev_go (pc' := 43) (L' := [some (.ref 0), some (.int x1), d2]) (st' := [.ref 89]) (sh' := sh_A) (M' := M) 2 rfl ?_
      obtain ⟨q2, hq3, h⟩ := Option.bind_eq_some_iff.mp h
      refine am_ev_call (mj := 78) (as := [.ref 89]) (rest := []) (rv := none) (sh' := sh_A) (M' := q2) rfl (te_78 _ _ hq3) ?_
      show am_ev _ 126 46 [some (.ref 0), some (.int x1), d2] [] sh_A q2 _
      refine am_ev_go (pc' := 50) (L' := [some (.ref 0), some (.int (0 : Int32)), some (.int (0 : Int32))]) (st' := []) (sh' := sh_A) (M' := q2) 4 rfl ?_
      exact te_126_50 1000 _ _ _ _ h
    · rw [if_neg hc1] at h
      refine am_ev_go (pc' := 22) (L' := [some (.ref 0), some (.int x1), d2]) (st' := [.int x1, .ref 94]) (sh' := sh_A) (M' := M) 3 rfl ?_
      obtain ⟨q4, hq5, h⟩ := Option.bind_eq_some_iff.mp h
      refine am_ev_call (mj := 105) (as := [.ref 94, .int x1]) (rest := []) (rv := none) (sh' := sh_A) (M' := q4) rfl (te_105 _ _ _ hq5) ?_
      show am_ev _ 126 25 [some (.ref 0), some (.int x1), d2] [] sh_A q4 _
      refine am_ev_go (pc' := 30) (L' := [some (.ref 0), some (.int x1), d2]) (st' := [.int x1, .ref 94]) (sh' := sh_A) (M' := q4) 3 rfl ?_
      obtain ⟨q6, hq7, h⟩ := Option.bind_eq_some_iff.mp h
      refine am_ev_call (mj := 118) (as := [.ref 94, .int x1]) (rest := []) (rv := none) (sh' := sh_A) (M' := q6) rfl (te_118 _ _ _ hq7) ?_
      show am_ev _ 126 33 [some (.ref 0), some (.int x1), d2] [] sh_A q6 _
      refine am_ev_go (pc' := 9) (L' := [some (.ref 0), some (.int (x1 + (1 : Int32))), d2]) (st' := []) (sh' := sh_A) (M' := q6) 2 rfl ?_
      exact hk9 _ _ _ _ h
/-- CountedActors.garbage()I -/
def fd_126 (M : am_M) : Option (Int32 × am_M) := (fd_76 M).bind fun q1 => fd_126_9 1000 (0 : Int32) q1
theorem te_126 {L : Nat} {xs : Nat → Int32} (M : am_M) (q : Int32 × am_M) (h : fd_126  M = some q) : am_ev (tb_P L xs) 126 0 [some (.ref 0), none, none] [] sh_A M (some (.int q.1), sh_A, q.2) := by
  unfold fd_126 at h
  refine am_ev_go (pc' := 4) (L' := [some (.ref 0), none, none]) (st' := [.ref 89]) (sh' := sh_A) (M' := M) 2 rfl ?_
  obtain ⟨q1, hq2, h⟩ := Option.bind_eq_some_iff.mp h
  refine am_ev_call (mj := 76) (as := [.ref 89]) (rest := []) (rv := none) (sh' := sh_A) (M' := q1) rfl (te_76 _ _ hq2) ?_
  show am_ev _ 126 7 [some (.ref 0), none, none] [] sh_A q1 _
  refine am_ev_go (pc' := 9) (L' := [some (.ref 0), some (.int (0 : Int32)), none]) (st' := []) (sh' := sh_A) (M' := q1) 2 rfl ?_
  exact te_126_9 1000 _ _ _ _ h
/-- CountedActors$Machine.timesLost()I -/
def fd_128 (M : am_M) : Option (Int32 × am_M) := some ((M 94 7), M)
theorem te_128 {L : Nat} {xs : Nat → Int32} (M : am_M) (q : Int32 × am_M) (h : fd_128  M = some q) : am_ev (tb_P L xs) 128 0 [some (.ref 94)] [] sh_A M (some (.int q.1), sh_A, q.2) := by
  unfold fd_128 at h
  refine am_ev_go (pc' := 4) (L' := [some (.ref 94)]) (st' := [.int (M 94 7)]) (sh' := sh_A) (M' := M) 2 rfl ?_
  cases h
  exact am_ev_ret rfl
/-- CountedActors.lost()I -/
def fd_127 (M : am_M) : Option (Int32 × am_M) := (fd_128 M).bind fun q1 => some (q1.1, q1.2)
theorem te_127 {L : Nat} {xs : Nat → Int32} (M : am_M) (q : Int32 × am_M) (h : fd_127  M = some q) : am_ev (tb_P L xs) 127 0 [some (.ref 0)] [] sh_A M (some (.int q.1), sh_A, q.2) := by
  unfold fd_127 at h
  refine am_ev_go (pc' := 4) (L' := [some (.ref 0)]) (st' := [.ref 94]) (sh' := sh_A) (M' := M) 2 rfl ?_
  obtain ⟨q1, hq2, h⟩ := Option.bind_eq_some_iff.mp h
  refine am_ev_call (mj := 128) (as := [.ref 94]) (rest := []) (rv := some (.int q1.1)) (sh' := sh_A) (M' := q1.2) rfl (te_128 _ _ hq2) ?_
  show am_ev _ 127 7 [some (.ref 0)] [.int q1.1] sh_A q1.2 _
  cases h
  exact am_ev_ret rfl
