def fd_169_2 (f : Nat) : Int32 → Int32 → am_M → Option (am_M) := Nat.rec (motive := fun _ => Int32 → Int32 → am_M → Option (am_M)) (fun _ _ _ => none) (fun _ k2 => fun x1 x2 M => if (6 : Int32) ≤ x2 then (some M) else (if (((6 : Int32) * x1) + x2) < 0 ∨ 24 ≤ (((6 : Int32) * x1) + x2).toNatClampNeg then none else (fd_159 (M 101 (((6 : Int32) * x1) + x2).toNatClampNeg) x2 M).bind fun q3 => k2 x1 (x2 + (1 : Int32)) q3)) f
set_option maxRecDepth 50000 in
theorem te_169_2 {L : Nat} {xs : Nat → Int32} : ∀ (f : Nat) (x1 : Int32) (x2 : Int32) (M : am_M) (q : am_M), fd_169_2 f x1 x2 M = some q → am_ev (tb_P L xs) 169 2 [some (.ref 96), some (.int x1), some (.int x2)] [] sh_A M (none, sh_A, q) := by
  intro f
  induction f with
  | zero => intro x1 x2 M q h; cases h
  | succ f hk2 =>
    intro x1 x2 M q h
    change (if (6 : Int32) ≤ x2 then (some M) else (if (((6 : Int32) * x1) + x2) < 0 ∨ 24 ≤ (((6 : Int32) * x1) + x2).toNatClampNeg then none else (fd_159 (M 101 (((6 : Int32) * x1) + x2).toNatClampNeg) x2 M).bind fun q3 => (fd_169_2 f) x1 (x2 + (1 : Int32)) q3)) = some q at h
    refine am_ev_go (pc' := (am_br .ge x2 (6 : Int32) 30 8)) (L' := [some (.ref 96), some (.int x1), some (.int x2)]) (st' := []) (sh' := sh_A) (M' := M) 3 rfl ?_
    refine ev_ge (fun hc1 => ?_) (fun hc1 => ?_)
    · rw [if_pos hc1] at h
      cases h
      exact am_ev_ret rfl
    · rw [if_neg hc1] at h
      refine am_ev_go (pc' := 19) (L' := [some (.ref 96), some (.int x1), some (.int x2)]) (st' := [.int (((6 : Int32) * x1) + x2), .ref 101, .ref 96]) (sh' := sh_A) (M' := M) 8 rfl ?_
      by_cases hg2 : (((6 : Int32) * x1) + x2) < 0 ∨ 24 ≤ (((6 : Int32) * x1) + x2).toNatClampNeg
      case pos => rw [if_pos hg2] at h; cases h
      rw [if_neg hg2] at h
      refine ev_iald rfl rfl hg2 ?_
      refine am_ev_go (pc' := 21) (L' := [some (.ref 96), some (.int x1), some (.int x2)]) (st' := [.int x2, .int (M 101 (((6 : Int32) * x1) + x2).toNatClampNeg), .ref 96]) (sh' := sh_A) (M' := M) 1 rfl ?_
      obtain ⟨q3, hq4, h⟩ := Option.bind_eq_some_iff.mp h
      refine am_ev_call (mj := 159) (as := [.ref 96, .int (M 101 (((6 : Int32) * x1) + x2).toNatClampNeg), .int x2]) (rest := []) (rv := none) (sh' := sh_A) (M' := q3) rfl (te_159 _ _ _ _ hq4) ?_
      show am_ev _ 169 24 [some (.ref 96), some (.int x1), some (.int x2)] [] sh_A q3 _
      refine am_ev_go (pc' := 2) (L' := [some (.ref 96), some (.int x1), some (.int (x2 + (1 : Int32)))]) (st' := []) (sh' := sh_A) (M' := q3) 2 rfl ?_
      exact hk2 _ _ _ _ h
/-- CountedActorsModel.ownRoots(I)V -/
def fd_169 (a1 : Int32) (M : am_M) : Option (am_M) := fd_169_2 1000 a1 (0 : Int32) M
set_option maxRecDepth 50000 in
theorem te_169 {L : Nat} {xs : Nat → Int32} (a1 : Int32) (M : am_M) (q : am_M) (h : fd_169 a1 M = some q) : am_ev (tb_P L xs) 169 0 [some (.ref 96), some (.int a1), none] [] sh_A M (none, sh_A, q) := by
  unfold fd_169 at h
  refine am_ev_go (pc' := 2) (L' := [some (.ref 96), some (.int a1), some (.int (0 : Int32))]) (st' := []) (sh' := sh_A) (M' := M) 2 rfl ?_
  exact te_169_2 1000 _ _ _ _ h
def fd_170_40 (k9 : Int32 → Int32 → am_M → Option (am_M)) (x1 : Int32) (x2 : Int32) (M : am_M) : Option (am_M) := k9 x1 (x2 + (1 : Int32)) M
set_option maxRecDepth 50000 in
theorem te_170_40 {L : Nat} {xs : Nat → Int32} {k9 : Int32 → Int32 → am_M → Option (am_M)} (hk9 : ∀ (x1 : Int32) (x2 : Int32) (M : am_M) (q : am_M), k9 x1 x2 M = some q → am_ev (tb_P L xs) 170 9 [some (.ref 96), some (.int x1), some (.int x2)] [] sh_A M (none, sh_A, q)) (x1 : Int32) (x2 : Int32) (M : am_M) (q : am_M) (h : fd_170_40 k9 x1 x2 M = some q) : am_ev (tb_P L xs) 170 40 [some (.ref 96), some (.int x1), some (.int x2)] [] sh_A M (none, sh_A, q) := by
  unfold fd_170_40 at h
  refine am_ev_go (pc' := 9) (L' := [some (.ref 96), some (.int x1), some (.int (x2 + (1 : Int32)))]) (st' := []) (sh' := sh_A) (M' := M) 2 rfl ?_
  exact hk9 _ _ _ _ h
def fd_170_33 (k9 : Int32 → Int32 → am_M → Option (am_M)) (x1 : Int32) (x2 : Int32) (M : am_M) : Option (am_M) := if x2 < 0 ∨ 96 ≤ x2.toNatClampNeg then none else fd_170_40 k9 x1 x2 (ds_w M 99 x2.toNatClampNeg (-1 : Int32))
set_option maxRecDepth 50000 in
theorem te_170_33 {L : Nat} {xs : Nat → Int32} {k9 : Int32 → Int32 → am_M → Option (am_M)} (hk9 : ∀ (x1 : Int32) (x2 : Int32) (M : am_M) (q : am_M), k9 x1 x2 M = some q → am_ev (tb_P L xs) 170 9 [some (.ref 96), some (.int x1), some (.int x2)] [] sh_A M (none, sh_A, q)) (x1 : Int32) (x2 : Int32) (M : am_M) (q : am_M) (h : fd_170_33 k9 x1 x2 M = some q) : am_ev (tb_P L xs) 170 33 [some (.ref 96), some (.int x1), some (.int x2)] [] sh_A M (none, sh_A, q) := by
  unfold fd_170_33 at h
  refine am_ev_go (pc' := 39) (L' := [some (.ref 96), some (.int x1), some (.int x2)]) (st' := [.int (-1 : Int32), .int x2, .ref 99]) (sh' := sh_A) (M' := M) 4 rfl ?_
  by_cases hg1 : x2 < 0 ∨ 96 ≤ x2.toNatClampNeg
  case pos => rw [if_pos hg1] at h; cases h
  rw [if_neg hg1] at h
  refine ev_iast rfl rfl hg1 ?_
  exact te_170_40 hk9 _ _ _ _ h
def fd_170_9 (f : Nat) : Int32 → Int32 → am_M → Option (am_M) := Nat.rec (motive := fun _ => Int32 → Int32 → am_M → Option (am_M)) (fun _ _ _ => none) (fun _ k9 => fun x1 x2 M => if (96 : Int32) ≤ x2 then (some M) else (if x2 < 0 ∨ 96 ≤ x2.toNatClampNeg then none else if (M 99 x2.toNatClampNeg) = x1 then (fd_170_33 k9 x1 x2 M) else (if (x2 / (6 : Int32)) = x1 then (fd_170_33 k9 x1 x2 M) else (fd_170_40 k9 x1 x2 M)))) f
set_option maxRecDepth 50000 in
theorem te_170_9 {L : Nat} {xs : Nat → Int32} : ∀ (f : Nat) (x1 : Int32) (x2 : Int32) (M : am_M) (q : am_M), fd_170_9 f x1 x2 M = some q → am_ev (tb_P L xs) 170 9 [some (.ref 96), some (.int x1), some (.int x2)] [] sh_A M (none, sh_A, q) := by
  intro f
  induction f with
  | zero => intro x1 x2 M q h; cases h
  | succ f hk9 =>
    intro x1 x2 M q h
    change (if (96 : Int32) ≤ x2 then (some M) else (if x2 < 0 ∨ 96 ≤ x2.toNatClampNeg then none else if (M 99 x2.toNatClampNeg) = x1 then (fd_170_33 (fd_170_9 f) x1 x2 M) else (if (x2 / (6 : Int32)) = x1 then (fd_170_33 (fd_170_9 f) x1 x2 M) else (fd_170_40 (fd_170_9 f) x1 x2 M)))) = some q at h
    refine am_ev_go (pc' := (am_br .ge x2 (96 : Int32) 46 15)) (L' := [some (.ref 96), some (.int x1), some (.int x2)]) (st' := []) (sh' := sh_A) (M' := M) 3 rfl ?_
    refine ev_ge (fun hc1 => ?_) (fun hc1 => ?_)
    · rw [if_pos hc1] at h
      cases h
      exact am_ev_ret rfl
    · rw [if_neg hc1] at h
      refine am_ev_go (pc' := 20) (L' := [some (.ref 96), some (.int x1), some (.int x2)]) (st' := [.int x2, .ref 99]) (sh' := sh_A) (M' := M) 3 rfl ?_
      by_cases hg2 : x2 < 0 ∨ 96 ≤ x2.toNatClampNeg
      case pos => rw [if_pos hg2] at h; cases h
      rw [if_neg hg2] at h
      refine ev_iald rfl rfl hg2 ?_
      refine am_ev_go (pc' := (am_br .eq (M 99 x2.toNatClampNeg) x1 33 25)) (L' := [some (.ref 96), some (.int x1), some (.int x2)]) (st' := []) (sh' := sh_A) (M' := M) 2 rfl ?_
      refine ev_eq (fun hc3 => ?_) (fun hc3 => ?_)
      · rw [if_pos hc3] at h
        exact te_170_33 hk9 _ _ _ _ h
      · rw [if_neg hc3] at h
        refine am_ev_go (pc' := (am_br .ne (x2 / (6 : Int32)) x1 40 33)) (L' := [some (.ref 96), some (.int x1), some (.int x2)]) (st' := []) (sh' := sh_A) (M' := M) 5 rfl ?_
        refine ev_ne (fun hc4 => ?_) (fun hc4 => ?_)
        · rw [if_neg hc4] at h
          exact te_170_40 hk9 _ _ _ _ h
        · rw [if_pos hc4] at h
          exact te_170_33 hk9 _ _ _ _ h
/-- CountedActorsModel.remove(I)V -/
def fd_170 (a1 : Int32) (M : am_M) : Option (am_M) := if a1 < 0 ∨ 16 ≤ a1.toNatClampNeg then none else fd_170_9 1000 a1 (0 : Int32) (ds_w M 97 a1.toNatClampNeg (-1 : Int32))
set_option maxRecDepth 50000 in
theorem te_170 {L : Nat} {xs : Nat → Int32} (a1 : Int32) (M : am_M) (q : am_M) (h : fd_170 a1 M = some q) : am_ev (tb_P L xs) 170 0 [some (.ref 96), some (.int a1), none] [] sh_A M (none, sh_A, q) := by
  unfold fd_170 at h
  refine am_ev_go (pc' := 6) (L' := [some (.ref 96), some (.int a1), none]) (st' := [.int (-1 : Int32), .int a1, .ref 97]) (sh' := sh_A) (M' := M) 4 rfl ?_
  by_cases hg1 : a1 < 0 ∨ 16 ≤ a1.toNatClampNeg
  case pos => rw [if_pos hg1] at h; cases h
  rw [if_neg hg1] at h
  refine ev_iast rfl rfl hg1 ?_
  refine am_ev_go (pc' := 9) (L' := [some (.ref 96), some (.int a1), some (.int (0 : Int32))]) (st' := []) (sh' := sh_A) (M' := (ds_w M 97 a1.toNatClampNeg (-1 : Int32))) 2 rfl ?_
  exact te_170_9 1000 _ _ _ _ h
def fd_168_173 (k85 : Int32 → Int32 → Int32 → am_M → Option (Int32 × am_M)) (x1 : Int32) (x2 : Int32) (x3 : Int32) (M : am_M) : Option (Int32 × am_M) := k85 x1 x2 (x3 + (1 : Int32)) M
set_option maxRecDepth 50000 in
theorem te_168_173 {L : Nat} {xs : Nat → Int32} {k85 : Int32 → Int32 → Int32 → am_M → Option (Int32 × am_M)} (hk85 : ∀ (x1 : Int32) (x2 : Int32) (x3 : Int32) (M : am_M) (q : Int32 × am_M) (e4 : Option Value), k85 x1 x2 x3 M = some q → am_ev (tb_P L xs) 168 85 [some (.ref 96), some (.int x1), some (.int x2), some (.int x3), e4] [] sh_A M (some (.int q.1), sh_A, q.2)) (x1 : Int32) (x2 : Int32) (x3 : Int32) (M : am_M) (q : Int32 × am_M) (d4 : Option Value) (h : fd_168_173 k85 x1 x2 x3 M = some q) : am_ev (tb_P L xs) 168 173 [some (.ref 96), some (.int x1), some (.int x2), some (.int x3), d4] [] sh_A M (some (.int q.1), sh_A, q.2) := by
  unfold fd_168_173 at h
  refine am_ev_go (pc' := 85) (L' := [some (.ref 96), some (.int x1), some (.int x2), some (.int (x3 + (1 : Int32))), d4]) (st' := []) (sh' := sh_A) (M' := M) 2 rfl ?_
  exact hk85 _ _ _ _ _ _ h
def fd_168_85 (f : Nat) : Int32 → Int32 → Int32 → am_M → Option (Int32 × am_M) := Nat.rec (motive := fun _ => Int32 → Int32 → Int32 → am_M → Option (Int32 × am_M)) (fun _ _ _ _ => none) (fun _ k85 => fun x1 x2 x3 M => if (16 : Int32) ≤ x3 then (some (x2, M)) else (if (((16 : Int32) * x1) + x3) < 0 ∨ 64 ≤ (((16 : Int32) * x1) + x3).toNatClampNeg then none else if x3 < 0 ∨ 16 ≤ x3.toNatClampNeg then none else if (M 97 x3.toNatClampNeg) = (-1 : Int32) then (fd_168_173 k85 x1 x2 x3 M) else (if x3 < 0 ∨ 16 ≤ x3.toNatClampNeg then none else if (M 97 x3.toNatClampNeg) = x1 then (fd_168_173 k85 x1 x2 x3 M) else (if x3 < 0 ∨ 16 ≤ x3.toNatClampNeg then none else if (M 112 x3.toNatClampNeg) = (0 : Int32) then (if (M 100 (((16 : Int32) * x1) + x3).toNatClampNeg) = (0 : Int32) then (fd_168_173 k85 x1 x2 x3 M) else (if (20 : Int32) ≤ (M 96 15) then (fd_168_173 k85 x1 x2 x3 M) else (if x3 < 0 ∨ 16 ≤ x3.toNatClampNeg then none else (fd_155 (2 : Int32) (M 97 x3.toNatClampNeg) x3 (M 100 (((16 : Int32) * x1) + x3).toNatClampNeg) M).bind fun q12 => if (((16 : Int32) * x1) + x3) < 0 ∨ 64 ≤ (((16 : Int32) * x1) + x3).toNatClampNeg then none else fd_168_173 k85 x1 x2 x3 (ds_w q12 100 (((16 : Int32) * x1) + x3).toNatClampNeg (0 : Int32))))) else (fd_168_173 k85 x1 x2 x3 M))))) f
set_option maxRecDepth 50000 in
theorem te_168_85 {L : Nat} {xs : Nat → Int32} : ∀ (f : Nat) (x1 : Int32) (x2 : Int32) (x3 : Int32) (M : am_M) (q : Int32 × am_M) (d4 : Option Value), fd_168_85 f x1 x2 x3 M = some q → am_ev (tb_P L xs) 168 85 [some (.ref 96), some (.int x1), some (.int x2), some (.int x3), d4] [] sh_A M (some (.int q.1), sh_A, q.2) := by
  intro f
  induction f with
  | zero => intro x1 x2 x3 M q d4 h; cases h
  | succ f hk85 =>
    intro x1 x2 x3 M q d4 h
    change (if (16 : Int32) ≤ x3 then (some (x2, M)) else (if (((16 : Int32) * x1) + x3) < 0 ∨ 64 ≤ (((16 : Int32) * x1) + x3).toNatClampNeg then none else if x3 < 0 ∨ 16 ≤ x3.toNatClampNeg then none else if (M 97 x3.toNatClampNeg) = (-1 : Int32) then (fd_168_173 (fd_168_85 f) x1 x2 x3 M) else (if x3 < 0 ∨ 16 ≤ x3.toNatClampNeg then none else if (M 97 x3.toNatClampNeg) = x1 then (fd_168_173 (fd_168_85 f) x1 x2 x3 M) else (if x3 < 0 ∨ 16 ≤ x3.toNatClampNeg then none else if (M 112 x3.toNatClampNeg) = (0 : Int32) then (if (M 100 (((16 : Int32) * x1) + x3).toNatClampNeg) = (0 : Int32) then (fd_168_173 (fd_168_85 f) x1 x2 x3 M) else (if (20 : Int32) ≤ (M 96 15) then (fd_168_173 (fd_168_85 f) x1 x2 x3 M) else (if x3 < 0 ∨ 16 ≤ x3.toNatClampNeg then none else (fd_155 (2 : Int32) (M 97 x3.toNatClampNeg) x3 (M 100 (((16 : Int32) * x1) + x3).toNatClampNeg) M).bind fun q12 => if (((16 : Int32) * x1) + x3) < 0 ∨ 64 ≤ (((16 : Int32) * x1) + x3).toNatClampNeg then none else fd_168_173 (fd_168_85 f) x1 x2 x3 (ds_w q12 100 (((16 : Int32) * x1) + x3).toNatClampNeg (0 : Int32))))) else (fd_168_173 (fd_168_85 f) x1 x2 x3 M))))) = some q at h
    refine am_ev_go (pc' := (am_br .ge x3 (16 : Int32) 179 91)) (L' := [some (.ref 96), some (.int x1), some (.int x2), some (.int x3), d4]) (st' := []) (sh' := sh_A) (M' := M) 3 rfl ?_
    refine ev_ge (fun hc1 => ?_) (fun hc1 => ?_)
    · rw [if_pos hc1] at h
      refine am_ev_go (pc' := 180) (L' := [some (.ref 96), some (.int x1), some (.int x2), some (.int x3), d4]) (st' := [.int x2]) (sh' := sh_A) (M' := M) 1 rfl ?_
      cases h
      exact am_ev_ret rfl
    · rw [if_neg hc1] at h
      refine am_ev_go (pc' := 101) (L' := [some (.ref 96), some (.int x1), some (.int x2), some (.int x3), d4]) (st' := [.int (((16 : Int32) * x1) + x3), .ref 100]) (sh' := sh_A) (M' := M) 7 rfl ?_
      by_cases hg2 : (((16 : Int32) * x1) + x3) < 0 ∨ 64 ≤ (((16 : Int32) * x1) + x3).toNatClampNeg
      case pos => rw [if_pos hg2] at h; cases h
      rw [if_neg hg2] at h
      refine ev_iald rfl rfl hg2 ?_
      refine am_ev_go (pc' := 109) (L' := [some (.ref 96), some (.int x1), some (.int x2), some (.int x3), some (.int (M 100 (((16 : Int32) * x1) + x3).toNatClampNeg))]) (st' := [.int x3, .ref 97]) (sh' := sh_A) (M' := M) 4 rfl ?_
      by_cases hg3 : x3 < 0 ∨ 16 ≤ x3.toNatClampNeg
      case pos => rw [if_pos hg3] at h; cases h
      rw [if_neg hg3] at h
      refine ev_iald rfl rfl hg3 ?_
      refine am_ev_go (pc' := (am_br .eq (M 97 x3.toNatClampNeg) (-1 : Int32) 173 114)) (L' := [some (.ref 96), some (.int x1), some (.int x2), some (.int x3), some (.int (M 100 (((16 : Int32) * x1) + x3).toNatClampNeg))]) (st' := []) (sh' := sh_A) (M' := M) 2 rfl ?_
      refine ev_eq (fun hc4 => ?_) (fun hc4 => ?_)
      · rw [if_pos hc4] at h
        exact te_168_173 hk85 _ _ _ _ _ _ h
      · rw [if_neg hc4] at h
        refine am_ev_go (pc' := 119) (L' := [some (.ref 96), some (.int x1), some (.int x2), some (.int x3), some (.int (M 100 (((16 : Int32) * x1) + x3).toNatClampNeg))]) (st' := [.int x3, .ref 97]) (sh' := sh_A) (M' := M) 3 rfl ?_
        by_cases hg5 : x3 < 0 ∨ 16 ≤ x3.toNatClampNeg
        case pos => rw [if_pos hg5] at h; cases h
        rw [if_neg hg5] at h
        refine ev_iald rfl rfl hg5 ?_
        refine am_ev_go (pc' := (am_br .eq (M 97 x3.toNatClampNeg) x1 173 124)) (L' := [some (.ref 96), some (.int x1), some (.int x2), some (.int x3), some (.int (M 100 (((16 : Int32) * x1) + x3).toNatClampNeg))]) (st' := []) (sh' := sh_A) (M' := M) 2 rfl ?_
        refine ev_eq (fun hc6 => ?_) (fun hc6 => ?_)
        · rw [if_pos hc6] at h
          exact te_168_173 hk85 _ _ _ _ _ _ h
        · rw [if_neg hc6] at h
          refine am_ev_go (pc' := 129) (L' := [some (.ref 96), some (.int x1), some (.int x2), some (.int x3), some (.int (M 100 (((16 : Int32) * x1) + x3).toNatClampNeg))]) (st' := [.int x3, .ref 112]) (sh' := sh_A) (M' := M) 3 rfl ?_
          by_cases hg7 : x3 < 0 ∨ 16 ≤ x3.toNatClampNeg
          case pos => rw [if_pos hg7] at h; cases h
          rw [if_neg hg7] at h
          refine ev_bald rfl rfl hg7 ?_
          refine am_ev_go (pc' := (am_br .ne (M 112 x3.toNatClampNeg) 0 173 133)) (L' := [some (.ref 96), some (.int x1), some (.int x2), some (.int x3), some (.int (M 100 (((16 : Int32) * x1) + x3).toNatClampNeg))]) (st' := []) (sh' := sh_A) (M' := M) 1 rfl ?_
          refine ev_ne (fun hc8 => ?_) (fun hc8 => ?_)
          · rw [if_neg hc8] at h
            exact te_168_173 hk85 _ _ _ _ _ _ h
          · rw [if_pos hc8] at h
            refine am_ev_go (pc' := (am_br .eq (M 100 (((16 : Int32) * x1) + x3).toNatClampNeg) 0 173 138)) (L' := [some (.ref 96), some (.int x1), some (.int x2), some (.int x3), some (.int (M 100 (((16 : Int32) * x1) + x3).toNatClampNeg))]) (st' := []) (sh' := sh_A) (M' := M) 2 rfl ?_
            refine ev_eq (fun hc9 => ?_) (fun hc9 => ?_)
            · rw [if_pos hc9] at h
              exact te_168_173 hk85 _ _ _ _ _ _ h
            · rw [if_neg hc9] at h
              refine am_ev_go (pc' := (am_br .ge (M 96 15) (20 : Int32) 173 147)) (L' := [some (.ref 96), some (.int x1), some (.int x2), some (.int x3), some (.int (M 100 (((16 : Int32) * x1) + x3).toNatClampNeg))]) (st' := []) (sh' := sh_A) (M' := M) 4 rfl ?_
              refine ev_ge (fun hc10 => ?_) (fun hc10 => ?_)
              · rw [if_pos hc10] at h
                exact te_168_173 hk85 _ _ _ _ _ _ h
              · rw [if_neg hc10] at h
                refine am_ev_go (pc' := 154) (L' := [some (.ref 96), some (.int x1), some (.int x2), some (.int x3), some (.int (M 100 (((16 : Int32) * x1) + x3).toNatClampNeg))]) (st' := [.int x3, .ref 97, .int (2 : Int32), .ref 96]) (sh' := sh_A) (M' := M) 5 rfl ?_
                by_cases hg11 : x3 < 0 ∨ 16 ≤ x3.toNatClampNeg
                case pos => rw [if_pos hg11] at h; cases h
                rw [if_neg hg11] at h
                refine ev_iald rfl rfl hg11 ?_
                refine am_ev_go (pc' := 158) (L' := [some (.ref 96), some (.int x1), some (.int x2), some (.int x3), some (.int (M 100 (((16 : Int32) * x1) + x3).toNatClampNeg))]) (st' := [.int (M 100 (((16 : Int32) * x1) + x3).toNatClampNeg), .int x3, .int (M 97 x3.toNatClampNeg), .int (2 : Int32), .ref 96]) (sh' := sh_A) (M' := M) 2 rfl ?_
                obtain ⟨q12, hq13, h⟩ := Option.bind_eq_some_iff.mp h
                refine am_ev_call (mj := 155) (as := [.ref 96, .int (2 : Int32), .int (M 97 x3.toNatClampNeg), .int x3, .int (M 100 (((16 : Int32) * x1) + x3).toNatClampNeg)]) (rest := []) (rv := none) (sh' := sh_A) (M' := q12) rfl (te_155 _ _ _ _ _ _ hq13) ?_
                show am_ev _ 168 161 [some (.ref 96), some (.int x1), some (.int x2), some (.int x3), some (.int (M 100 (((16 : Int32) * x1) + x3).toNatClampNeg))] [] sh_A q12 _
                refine am_ev_go (pc' := 172) (L' := [some (.ref 96), some (.int x1), some (.int x2), some (.int x3), some (.int (M 100 (((16 : Int32) * x1) + x3).toNatClampNeg))]) (st' := [.int (0 : Int32), .int (((16 : Int32) * x1) + x3), .ref 100]) (sh' := sh_A) (M' := q12) 8 rfl ?_
                by_cases hg14 : (((16 : Int32) * x1) + x3) < 0 ∨ 64 ≤ (((16 : Int32) * x1) + x3).toNatClampNeg
                case pos => rw [if_pos hg14] at h; cases h
                rw [if_neg hg14] at h
                refine ev_iast rfl rfl hg14 ?_
                exact te_168_173 hk85 _ _ _ _ _ _ h
def fd_168_77 (k30 : Int32 → Int32 → Int32 → am_M → Option (Int32 × am_M)) (x1 : Int32) (x2 : Int32) (x3 : Int32) (M : am_M) : Option (Int32 × am_M) := k30 x1 x2 (x3 + (1 : Int32)) M
set_option maxRecDepth 50000 in
theorem te_168_77 {L : Nat} {xs : Nat → Int32} {k30 : Int32 → Int32 → Int32 → am_M → Option (Int32 × am_M)} (hk30 : ∀ (x1 : Int32) (x2 : Int32) (x3 : Int32) (M : am_M) (q : Int32 × am_M) (e4 : Option Value), k30 x1 x2 x3 M = some q → am_ev (tb_P L xs) 168 30 [some (.ref 96), some (.int x1), some (.int x2), some (.int x3), e4] [] sh_A M (some (.int q.1), sh_A, q.2)) (x1 : Int32) (x2 : Int32) (x3 : Int32) (M : am_M) (q : Int32 × am_M) (d4 : Option Value) (h : fd_168_77 k30 x1 x2 x3 M = some q) : am_ev (tb_P L xs) 168 77 [some (.ref 96), some (.int x1), some (.int x2), some (.int x3), d4] [] sh_A M (some (.int q.1), sh_A, q.2) := by
  unfold fd_168_77 at h
  refine am_ev_go (pc' := 30) (L' := [some (.ref 96), some (.int x1), some (.int x2), some (.int (x3 + (1 : Int32))), d4]) (st' := []) (sh' := sh_A) (M' := M) 2 rfl ?_
  exact hk30 _ _ _ _ _ _ h
def fd_168_30 (f : Nat) : Int32 → Int32 → Int32 → am_M → Option (Int32 × am_M) := Nat.rec (motive := fun _ => Int32 → Int32 → Int32 → am_M → Option (Int32 × am_M)) (fun _ _ _ _ => none) (fun _ k30 => fun x1 x2 x3 M => if (16 : Int32) ≤ x3 then (fd_168_85 1000 x1 x2 (0 : Int32) M) else (if x3 < 0 ∨ 16 ≤ x3.toNatClampNeg then none else if (M 97 x3.toNatClampNeg) = x1 then (if x3 < 0 ∨ 16 ≤ x3.toNatClampNeg then none else if (M 112 x3.toNatClampNeg) = (0 : Int32) then (if (((16 : Int32) * x1) + x3) < 0 ∨ 64 ≤ (((16 : Int32) * x1) + x3).toNatClampNeg then none else if (M 100 (((16 : Int32) * x1) + x3).toNatClampNeg) = (0 : Int32) then ((fd_170 x3 M).bind fun q8 => fd_168_77 k30 x1 (x2 + (1 : Int32)) x3 q8) else (fd_168_77 k30 x1 x2 x3 M)) else (fd_168_77 k30 x1 x2 x3 M)) else (fd_168_77 k30 x1 x2 x3 M))) f
set_option maxRecDepth 50000 in
theorem te_168_30 {L : Nat} {xs : Nat → Int32} : ∀ (f : Nat) (x1 : Int32) (x2 : Int32) (x3 : Int32) (M : am_M) (q : Int32 × am_M) (d4 : Option Value), fd_168_30 f x1 x2 x3 M = some q → am_ev (tb_P L xs) 168 30 [some (.ref 96), some (.int x1), some (.int x2), some (.int x3), d4] [] sh_A M (some (.int q.1), sh_A, q.2) := by
  intro f
  induction f with
  | zero => intro x1 x2 x3 M q d4 h; cases h
  | succ f hk30 =>
    intro x1 x2 x3 M q d4 h
    change (if (16 : Int32) ≤ x3 then (fd_168_85 1000 x1 x2 (0 : Int32) M) else (if x3 < 0 ∨ 16 ≤ x3.toNatClampNeg then none else if (M 97 x3.toNatClampNeg) = x1 then (if x3 < 0 ∨ 16 ≤ x3.toNatClampNeg then none else if (M 112 x3.toNatClampNeg) = (0 : Int32) then (if (((16 : Int32) * x1) + x3) < 0 ∨ 64 ≤ (((16 : Int32) * x1) + x3).toNatClampNeg then none else if (M 100 (((16 : Int32) * x1) + x3).toNatClampNeg) = (0 : Int32) then ((fd_170 x3 M).bind fun q8 => fd_168_77 (fd_168_30 f) x1 (x2 + (1 : Int32)) x3 q8) else (fd_168_77 (fd_168_30 f) x1 x2 x3 M)) else (fd_168_77 (fd_168_30 f) x1 x2 x3 M)) else (fd_168_77 (fd_168_30 f) x1 x2 x3 M))) = some q at h
    refine am_ev_go (pc' := (am_br .ge x3 (16 : Int32) 83 36)) (L' := [some (.ref 96), some (.int x1), some (.int x2), some (.int x3), d4]) (st' := []) (sh' := sh_A) (M' := M) 3 rfl ?_
    refine ev_ge (fun hc1 => ?_) (fun hc1 => ?_)
    · rw [if_pos hc1] at h
      refine am_ev_go (pc' := 85) (L' := [some (.ref 96), some (.int x1), some (.int x2), some (.int (0 : Int32)), d4]) (st' := []) (sh' := sh_A) (M' := M) 2 rfl ?_
      exact te_168_85 1000 _ _ _ _ _ _ h
    · rw [if_neg hc1] at h
      refine am_ev_go (pc' := 41) (L' := [some (.ref 96), some (.int x1), some (.int x2), some (.int x3), d4]) (st' := [.int x3, .ref 97]) (sh' := sh_A) (M' := M) 3 rfl ?_
      by_cases hg2 : x3 < 0 ∨ 16 ≤ x3.toNatClampNeg
      case pos => rw [if_pos hg2] at h; cases h
      rw [if_neg hg2] at h
      refine ev_iald rfl rfl hg2 ?_
      refine am_ev_go (pc' := (am_br .ne (M 97 x3.toNatClampNeg) x1 77 46)) (L' := [some (.ref 96), some (.int x1), some (.int x2), some (.int x3), d4]) (st' := []) (sh' := sh_A) (M' := M) 2 rfl ?_
      refine ev_ne (fun hc3 => ?_) (fun hc3 => ?_)
      · rw [if_neg hc3] at h
        exact te_168_77 hk30 _ _ _ _ _ _ h
      · rw [if_pos hc3] at h
        refine am_ev_go (pc' := 51) (L' := [some (.ref 96), some (.int x1), some (.int x2), some (.int x3), d4]) (st' := [.int x3, .ref 112]) (sh' := sh_A) (M' := M) 3 rfl ?_
        by_cases hg4 : x3 < 0 ∨ 16 ≤ x3.toNatClampNeg
        case pos => rw [if_pos hg4] at h; cases h
        rw [if_neg hg4] at h
        refine ev_bald rfl rfl hg4 ?_
        refine am_ev_go (pc' := (am_br .ne (M 112 x3.toNatClampNeg) 0 77 55)) (L' := [some (.ref 96), some (.int x1), some (.int x2), some (.int x3), d4]) (st' := []) (sh' := sh_A) (M' := M) 1 rfl ?_
        refine ev_ne (fun hc5 => ?_) (fun hc5 => ?_)
        · rw [if_neg hc5] at h
          exact te_168_77 hk30 _ _ _ _ _ _ h
        · rw [if_pos hc5] at h
          refine am_ev_go (pc' := 65) (L' := [some (.ref 96), some (.int x1), some (.int x2), some (.int x3), d4]) (st' := [.int (((16 : Int32) * x1) + x3), .ref 100]) (sh' := sh_A) (M' := M) 7 rfl ?_
          by_cases hg6 : (((16 : Int32) * x1) + x3) < 0 ∨ 64 ≤ (((16 : Int32) * x1) + x3).toNatClampNeg
          case pos => rw [if_pos hg6] at h; cases h
          rw [if_neg hg6] at h
          refine ev_iald rfl rfl hg6 ?_
          refine am_ev_go (pc' := (am_br .ne (M 100 (((16 : Int32) * x1) + x3).toNatClampNeg) 0 77 69)) (L' := [some (.ref 96), some (.int x1), some (.int x2), some (.int x3), d4]) (st' := []) (sh' := sh_A) (M' := M) 1 rfl ?_
          refine ev_ne (fun hc7 => ?_) (fun hc7 => ?_)
          · rw [if_neg hc7] at h
            exact te_168_77 hk30 _ _ _ _ _ _ h
          · rw [if_pos hc7] at h
            refine am_ev_go (pc' := 71) (L' := [some (.ref 96), some (.int x1), some (.int x2), some (.int x3), d4]) (st' := [.int x3, .ref 96]) (sh' := sh_A) (M' := M) 2 rfl ?_
            obtain ⟨q8, hq9, h⟩ := Option.bind_eq_some_iff.mp h
            refine am_ev_call (mj := 170) (as := [.ref 96, .int x3]) (rest := []) (rv := none) (sh' := sh_A) (M' := q8) rfl (te_170 _ _ _ hq9) ?_
            show am_ev _ 168 74 [some (.ref 96), some (.int x1), some (.int x2), some (.int x3), d4] [] sh_A q8 _
            refine am_ev_go (pc' := 77) (L' := [some (.ref 96), some (.int x1), some (.int (x2 + (1 : Int32))), some (.int x3), d4]) (st' := []) (sh' := sh_A) (M' := q8) 1 rfl ?_
            exact te_168_77 hk30 _ _ _ _ _ _ h
/-- CountedActorsModel.collect(I)I -/
def fd_168 (a1 : Int32) (M : am_M) : Option (Int32 × am_M) := (fd_148 a1 (M 96 0) M).bind fun q1 => if q1.1 = (0 : Int32) then (some ((-1 : Int32), q1.2)) else ((fd_158 q1.2).bind fun q4 => (fd_169 a1 q4).bind fun q6 => (fd_160 q6).bind fun q8 => fd_168_30 1000 a1 (0 : Int32) (0 : Int32) q8)
set_option maxRecDepth 50000 in
theorem te_168 {L : Nat} {xs : Nat → Int32} (a1 : Int32) (M : am_M) (q : Int32 × am_M) (h : fd_168 a1 M = some q) : am_ev (tb_P L xs) 168 0 [some (.ref 96), some (.int a1), none, none, none] [] sh_A M (some (.int q.1), sh_A, q.2) := by
  unfold fd_168 at h
  refine am_ev_go (pc' := 5) (L' := [some (.ref 96), some (.int a1), none, none, none]) (st' := [.int (M 96 0), .int a1]) (sh' := sh_A) (M' := M) 3 rfl ?_
  obtain ⟨q1, hq2, h⟩ := Option.bind_eq_some_iff.mp h
  refine am_ev_call (mj := 148) (as := [.int a1, .int (M 96 0)]) (rest := []) (rv := some (.int q1.1)) (sh' := sh_A) (M' := q1.2) rfl (te_148 _ _ _ _ hq2) ?_
  show am_ev _ 168 8 [some (.ref 96), some (.int a1), none, none, none] [.int q1.1] sh_A q1.2 _
  refine am_ev_go (pc' := (am_br .ne q1.1 0 13 11)) (L' := [some (.ref 96), some (.int a1), none, none, none]) (st' := []) (sh' := sh_A) (M' := q1.2) 1 rfl ?_
  refine ev_ne (fun hc3 => ?_) (fun hc3 => ?_)
  · rw [if_neg hc3] at h
    refine am_ev_go (pc' := 14) (L' := [some (.ref 96), some (.int a1), none, none, none]) (st' := [.ref 96]) (sh' := sh_A) (M' := q1.2) 1 rfl ?_
    obtain ⟨q4, hq5, h⟩ := Option.bind_eq_some_iff.mp h
    refine am_ev_call (mj := 158) (as := [.ref 96]) (rest := []) (rv := none) (sh' := sh_A) (M' := q4) rfl (te_158 _ _ hq5) ?_
    show am_ev _ 168 17 [some (.ref 96), some (.int a1), none, none, none] [] sh_A q4 _
    refine am_ev_go (pc' := 19) (L' := [some (.ref 96), some (.int a1), none, none, none]) (st' := [.int a1, .ref 96]) (sh' := sh_A) (M' := q4) 2 rfl ?_
    obtain ⟨q6, hq7, h⟩ := Option.bind_eq_some_iff.mp h
    refine am_ev_call (mj := 169) (as := [.ref 96, .int a1]) (rest := []) (rv := none) (sh' := sh_A) (M' := q6) rfl (te_169 _ _ _ hq7) ?_
    show am_ev _ 168 22 [some (.ref 96), some (.int a1), none, none, none] [] sh_A q6 _
    refine am_ev_go (pc' := 23) (L' := [some (.ref 96), some (.int a1), none, none, none]) (st' := [.ref 96]) (sh' := sh_A) (M' := q6) 1 rfl ?_
    obtain ⟨q8, hq9, h⟩ := Option.bind_eq_some_iff.mp h
    refine am_ev_call (mj := 160) (as := [.ref 96]) (rest := []) (rv := none) (sh' := sh_A) (M' := q8) rfl (te_160 _ _ hq9) ?_
    show am_ev _ 168 26 [some (.ref 96), some (.int a1), none, none, none] [] sh_A q8 _
    refine am_ev_go (pc' := 30) (L' := [some (.ref 96), some (.int a1), some (.int (0 : Int32)), some (.int (0 : Int32)), none]) (st' := []) (sh' := sh_A) (M' := q8) 4 rfl ?_
    exact te_168_30 1000 _ _ _ _ _ _ h
  · rw [if_pos hc3] at h
    refine am_ev_go (pc' := 12) (L' := [some (.ref 96), some (.int a1), none, none, none]) (st' := [.int (-1 : Int32)]) (sh' := sh_A) (M' := q1.2) 1 rfl ?_
    cases h
    exact am_ev_ret rfl
def fd_171_38 (k17 : Int32 → Int32 → Int32 → am_M → Option (Int32 × am_M)) (x1 : Int32) (x2 : Int32) (x3 : Int32) (M : am_M) : Option (Int32 × am_M) := k17 x1 x2 (x3 + (1 : Int32)) M
set_option maxRecDepth 50000 in
theorem te_171_38 {L : Nat} {xs : Nat → Int32} {k17 : Int32 → Int32 → Int32 → am_M → Option (Int32 × am_M)} (hk17 : ∀ (x1 : Int32) (x2 : Int32) (x3 : Int32) (M : am_M) (q : Int32 × am_M), k17 x1 x2 x3 M = some q → am_ev (tb_P L xs) 171 17 [some (.ref 96), some (.int x1), some (.int x2), some (.int x3)] [] sh_A M (some (.int q.1), sh_A, q.2)) (x1 : Int32) (x2 : Int32) (x3 : Int32) (M : am_M) (q : Int32 × am_M) (h : fd_171_38 k17 x1 x2 x3 M = some q) : am_ev (tb_P L xs) 171 38 [some (.ref 96), some (.int x1), some (.int x2), some (.int x3)] [] sh_A M (some (.int q.1), sh_A, q.2) := by
  unfold fd_171_38 at h
  refine am_ev_go (pc' := 17) (L' := [some (.ref 96), some (.int x1), some (.int x2), some (.int (x3 + (1 : Int32)))]) (st' := []) (sh' := sh_A) (M' := M) 2 rfl ?_
  exact hk17 _ _ _ _ _ h
def fd_171_17 (f : Nat) : Int32 → Int32 → Int32 → am_M → Option (Int32 × am_M) := Nat.rec (motive := fun _ => Int32 → Int32 → Int32 → am_M → Option (Int32 × am_M)) (fun _ _ _ _ => none) (fun _ k17 => fun x1 x2 x3 M => if (M 96 15) ≤ x3 then (some (x2, M)) else (if x3 < 0 ∨ 20 ≤ x3.toNatClampNeg then none else if (M 109 x3.toNatClampNeg) = x1 then (fd_171_38 k17 x1 (x2 + (1 : Int32)) x3 M) else (fd_171_38 k17 x1 x2 x3 M))) f
set_option maxRecDepth 50000 in
theorem te_171_17 {L : Nat} {xs : Nat → Int32} : ∀ (f : Nat) (x1 : Int32) (x2 : Int32) (x3 : Int32) (M : am_M) (q : Int32 × am_M), fd_171_17 f x1 x2 x3 M = some q → am_ev (tb_P L xs) 171 17 [some (.ref 96), some (.int x1), some (.int x2), some (.int x3)] [] sh_A M (some (.int q.1), sh_A, q.2) := by
  intro f
  induction f with
  | zero => intro x1 x2 x3 M q h; cases h
  | succ f hk17 =>
    intro x1 x2 x3 M q h
    change (if (M 96 15) ≤ x3 then (some (x2, M)) else (if x3 < 0 ∨ 20 ≤ x3.toNatClampNeg then none else if (M 109 x3.toNatClampNeg) = x1 then (fd_171_38 (fd_171_17 f) x1 (x2 + (1 : Int32)) x3 M) else (fd_171_38 (fd_171_17 f) x1 x2 x3 M))) = some q at h
    refine am_ev_go (pc' := (am_br .ge x3 (M 96 15) 44 25)) (L' := [some (.ref 96), some (.int x1), some (.int x2), some (.int x3)]) (st' := []) (sh' := sh_A) (M' := M) 4 rfl ?_
    refine ev_ge (fun hc1 => ?_) (fun hc1 => ?_)
    · rw [if_pos hc1] at h
      refine am_ev_go (pc' := 45) (L' := [some (.ref 96), some (.int x1), some (.int x2), some (.int x3)]) (st' := [.int x2]) (sh' := sh_A) (M' := M) 1 rfl ?_
      cases h
      exact am_ev_ret rfl
    · rw [if_neg hc1] at h
      refine am_ev_go (pc' := 30) (L' := [some (.ref 96), some (.int x1), some (.int x2), some (.int x3)]) (st' := [.int x3, .ref 109]) (sh' := sh_A) (M' := M) 3 rfl ?_
      by_cases hg2 : x3 < 0 ∨ 20 ≤ x3.toNatClampNeg
      case pos => rw [if_pos hg2] at h; cases h
      rw [if_neg hg2] at h
      refine ev_iald rfl rfl hg2 ?_
      refine am_ev_go (pc' := (am_br .ne (M 109 x3.toNatClampNeg) x1 38 35)) (L' := [some (.ref 96), some (.int x1), some (.int x2), some (.int x3)]) (st' := []) (sh' := sh_A) (M' := M) 2 rfl ?_
      refine ev_ne (fun hc3 => ?_) (fun hc3 => ?_)
      · rw [if_neg hc3] at h
        exact te_171_38 hk17 _ _ _ _ _ h
      · rw [if_pos hc3] at h
        refine am_ev_go (pc' := 38) (L' := [some (.ref 96), some (.int x1), some (.int (x2 + (1 : Int32))), some (.int x3)]) (st' := []) (sh' := sh_A) (M' := M) 1 rfl ?_
        exact te_171_38 hk17 _ _ _ _ _ h
/-- CountedActorsModel.waiting(I)I -/
def fd_171 (a1 : Int32) (M : am_M) : Option (Int32 × am_M) := (fd_148 a1 (M 96 0) M).bind fun q1 => if q1.1 = (0 : Int32) then (some ((-1 : Int32), q1.2)) else (fd_171_17 1000 a1 (0 : Int32) (0 : Int32) q1.2)
set_option maxRecDepth 50000 in
theorem te_171 {L : Nat} {xs : Nat → Int32} (a1 : Int32) (M : am_M) (q : Int32 × am_M) (h : fd_171 a1 M = some q) : am_ev (tb_P L xs) 171 0 [some (.ref 96), some (.int a1), none, none] [] sh_A M (some (.int q.1), sh_A, q.2) := by
  unfold fd_171 at h
  refine am_ev_go (pc' := 5) (L' := [some (.ref 96), some (.int a1), none, none]) (st' := [.int (M 96 0), .int a1]) (sh' := sh_A) (M' := M) 3 rfl ?_
  obtain ⟨q1, hq2, h⟩ := Option.bind_eq_some_iff.mp h
  refine am_ev_call (mj := 148) (as := [.int a1, .int (M 96 0)]) (rest := []) (rv := some (.int q1.1)) (sh' := sh_A) (M' := q1.2) rfl (te_148 _ _ _ _ hq2) ?_
  show am_ev _ 171 8 [some (.ref 96), some (.int a1), none, none] [.int q1.1] sh_A q1.2 _
  refine am_ev_go (pc' := (am_br .ne q1.1 0 13 11)) (L' := [some (.ref 96), some (.int a1), none, none]) (st' := []) (sh' := sh_A) (M' := q1.2) 1 rfl ?_
  refine ev_ne (fun hc3 => ?_) (fun hc3 => ?_)
  · rw [if_neg hc3] at h
    refine am_ev_go (pc' := 17) (L' := [some (.ref 96), some (.int a1), some (.int (0 : Int32)), some (.int (0 : Int32))]) (st' := []) (sh' := sh_A) (M' := q1.2) 4 rfl ?_
    exact te_171_17 1000 _ _ _ _ _ h
  · rw [if_pos hc3] at h
    refine am_ev_go (pc' := 12) (L' := [some (.ref 96), some (.int a1), none, none]) (st' := [.int (-1 : Int32)]) (sh' := sh_A) (M' := q1.2) 1 rfl ?_
    cases h
    exact am_ev_ret rfl
/-- CountedActorsModel.there(I)Z -/
def fd_173 (a1 : Int32) (M : am_M) : Option (Int32 × am_M) := (fd_148 a1 (16 : Int32) M).bind fun q1 => if q1.1 = (0 : Int32) then (some ((0 : Int32), q1.2)) else (if a1 < 0 ∨ 16 ≤ a1.toNatClampNeg then none else if (q1.2 97 a1.toNatClampNeg) = (-1 : Int32) then (some ((0 : Int32), q1.2)) else (some ((1 : Int32), q1.2)))
set_option maxRecDepth 50000 in
theorem te_173 {L : Nat} {xs : Nat → Int32} (a1 : Int32) (M : am_M) (q : Int32 × am_M) (h : fd_173 a1 M = some q) : am_ev (tb_P L xs) 173 0 [some (.ref 96), some (.int a1)] [] sh_A M (some (.int q.1), sh_A, q.2) := by
  unfold fd_173 at h
  refine am_ev_go (pc' := 3) (L' := [some (.ref 96), some (.int a1)]) (st' := [.int (16 : Int32), .int a1]) (sh' := sh_A) (M' := M) 2 rfl ?_
  obtain ⟨q1, hq2, h⟩ := Option.bind_eq_some_iff.mp h
  refine am_ev_call (mj := 148) (as := [.int a1, .int (16 : Int32)]) (rest := []) (rv := some (.int q1.1)) (sh' := sh_A) (M' := q1.2) rfl (te_148 _ _ _ _ hq2) ?_
  show am_ev _ 173 6 [some (.ref 96), some (.int a1)] [.int q1.1] sh_A q1.2 _
  refine am_ev_go (pc' := (am_br .eq q1.1 0 23 9)) (L' := [some (.ref 96), some (.int a1)]) (st' := []) (sh' := sh_A) (M' := q1.2) 1 rfl ?_
  refine ev_eq (fun hc3 => ?_) (fun hc3 => ?_)
  · rw [if_pos hc3] at h
    refine am_ev_go (pc' := 24) (L' := [some (.ref 96), some (.int a1)]) (st' := [.int (0 : Int32)]) (sh' := sh_A) (M' := q1.2) 1 rfl ?_
    cases h
    exact am_ev_ret rfl
  · rw [if_neg hc3] at h
    refine am_ev_go (pc' := 14) (L' := [some (.ref 96), some (.int a1)]) (st' := [.int a1, .ref 97]) (sh' := sh_A) (M' := q1.2) 3 rfl ?_
    by_cases hg4 : a1 < 0 ∨ 16 ≤ a1.toNatClampNeg
    case pos => rw [if_pos hg4] at h; cases h
    rw [if_neg hg4] at h
    refine ev_iald rfl rfl hg4 ?_
    refine am_ev_go (pc' := (am_br .eq (q1.2 97 a1.toNatClampNeg) (-1 : Int32) 23 19)) (L' := [some (.ref 96), some (.int a1)]) (st' := []) (sh' := sh_A) (M' := q1.2) 2 rfl ?_
    refine ev_eq (fun hc5 => ?_) (fun hc5 => ?_)
    · rw [if_pos hc5] at h
      refine am_ev_go (pc' := 24) (L' := [some (.ref 96), some (.int a1)]) (st' := [.int (0 : Int32)]) (sh' := sh_A) (M' := q1.2) 1 rfl ?_
      cases h
      exact am_ev_ret rfl
    · rw [if_neg hc5] at h
      refine am_ev_go (pc' := 24) (L' := [some (.ref 96), some (.int a1)]) (st' := [.int (1 : Int32)]) (sh' := sh_A) (M' := q1.2) 2 rfl ?_
      cases h
      exact am_ev_ret rfl
/-- CountedActorsModel.owner(I)I -/
def fd_172 (a1 : Int32) (M : am_M) : Option (Int32 × am_M) := (fd_173 a1 M).bind fun q1 => if q1.1 = (0 : Int32) then (some ((-1 : Int32), q1.2)) else (if a1 < 0 ∨ 16 ≤ a1.toNatClampNeg then none else some ((q1.2 97 a1.toNatClampNeg), q1.2))
set_option maxRecDepth 50000 in
theorem te_172 {L : Nat} {xs : Nat → Int32} (a1 : Int32) (M : am_M) (q : Int32 × am_M) (h : fd_172 a1 M = some q) : am_ev (tb_P L xs) 172 0 [some (.ref 96), some (.int a1)] [] sh_A M (some (.int q.1), sh_A, q.2) := by
  unfold fd_172 at h
  refine am_ev_go (pc' := 2) (L' := [some (.ref 96), some (.int a1)]) (st' := [.int a1, .ref 96]) (sh' := sh_A) (M' := M) 2 rfl ?_
  obtain ⟨q1, hq2, h⟩ := Option.bind_eq_some_iff.mp h
  refine am_ev_call (mj := 173) (as := [.ref 96, .int a1]) (rest := []) (rv := some (.int q1.1)) (sh' := sh_A) (M' := q1.2) rfl (te_173 _ _ _ hq2) ?_
  show am_ev _ 172 5 [some (.ref 96), some (.int a1)] [.int q1.1] sh_A q1.2 _
  refine am_ev_go (pc' := (am_br .eq q1.1 0 17 8)) (L' := [some (.ref 96), some (.int a1)]) (st' := []) (sh' := sh_A) (M' := q1.2) 1 rfl ?_
  refine ev_eq (fun hc3 => ?_) (fun hc3 => ?_)
  · rw [if_pos hc3] at h
    refine am_ev_go (pc' := 18) (L' := [some (.ref 96), some (.int a1)]) (st' := [.int (-1 : Int32)]) (sh' := sh_A) (M' := q1.2) 1 rfl ?_
    cases h
    exact am_ev_ret rfl
  · rw [if_neg hc3] at h
    refine am_ev_go (pc' := 13) (L' := [some (.ref 96), some (.int a1)]) (st' := [.int a1, .ref 97]) (sh' := sh_A) (M' := q1.2) 3 rfl ?_
    by_cases hg4 : a1 < 0 ∨ 16 ≤ a1.toNatClampNeg
    case pos => rw [if_pos hg4] at h; cases h
    rw [if_neg hg4] at h
    refine ev_iald rfl rfl hg4 ?_
    refine am_ev_go (pc' := 18) (L' := [some (.ref 96), some (.int a1)]) (st' := [.int (q1.2 97 a1.toNatClampNeg)]) (sh' := sh_A) (M' := q1.2) 1 rfl ?_
    cases h
    exact am_ev_ret rfl
/-- CountedActorsModel.cell(I)I -/
def fd_174 (a1 : Int32) (M : am_M) : Option (Int32 × am_M) := (fd_173 a1 M).bind fun q1 => if q1.1 = (0 : Int32) then (some ((0 : Int32), q1.2)) else (if a1 < 0 ∨ 16 ≤ a1.toNatClampNeg then none else some ((q1.2 98 a1.toNatClampNeg), q1.2))
set_option maxRecDepth 50000 in
theorem te_174 {L : Nat} {xs : Nat → Int32} (a1 : Int32) (M : am_M) (q : Int32 × am_M) (h : fd_174 a1 M = some q) : am_ev (tb_P L xs) 174 0 [some (.ref 96), some (.int a1)] [] sh_A M (some (.int q.1), sh_A, q.2) := by
  unfold fd_174 at h
  refine am_ev_go (pc' := 2) (L' := [some (.ref 96), some (.int a1)]) (st' := [.int a1, .ref 96]) (sh' := sh_A) (M' := M) 2 rfl ?_
  obtain ⟨q1, hq2, h⟩ := Option.bind_eq_some_iff.mp h
  refine am_ev_call (mj := 173) (as := [.ref 96, .int a1]) (rest := []) (rv := some (.int q1.1)) (sh' := sh_A) (M' := q1.2) rfl (te_173 _ _ _ hq2) ?_
  show am_ev _ 174 5 [some (.ref 96), some (.int a1)] [.int q1.1] sh_A q1.2 _
  refine am_ev_go (pc' := (am_br .eq q1.1 0 17 8)) (L' := [some (.ref 96), some (.int a1)]) (st' := []) (sh' := sh_A) (M' := q1.2) 1 rfl ?_
  refine ev_eq (fun hc3 => ?_) (fun hc3 => ?_)
  · rw [if_pos hc3] at h
    refine am_ev_go (pc' := 18) (L' := [some (.ref 96), some (.int a1)]) (st' := [.int (0 : Int32)]) (sh' := sh_A) (M' := q1.2) 1 rfl ?_
    cases h
    exact am_ev_ret rfl
  · rw [if_neg hc3] at h
    refine am_ev_go (pc' := 13) (L' := [some (.ref 96), some (.int a1)]) (st' := [.int a1, .ref 98]) (sh' := sh_A) (M' := q1.2) 3 rfl ?_
    by_cases hg4 : a1 < 0 ∨ 16 ≤ a1.toNatClampNeg
    case pos => rw [if_pos hg4] at h; cases h
    rw [if_neg hg4] at h
    refine ev_iald rfl rfl hg4 ?_
    refine am_ev_go (pc' := 18) (L' := [some (.ref 96), some (.int a1)]) (st' := [.int (q1.2 98 a1.toNatClampNeg)]) (sh' := sh_A) (M' := q1.2) 1 rfl ?_
    cases h
    exact am_ev_ret rfl
/-- CountedActorsModel.count(II)I -/
def fd_175 (a1 : Int32) (a2 : Int32) (M : am_M) : Option (Int32 × am_M) := (fd_148 a1 (M 96 0) M).bind fun q1 => if q1.1 = (0 : Int32) then (some ((-1 : Int32), q1.2)) else ((fd_173 a2 q1.2).bind fun q4 => if q4.1 = (0 : Int32) then (some ((-1 : Int32), q4.2)) else (if (((16 : Int32) * a1) + a2) < 0 ∨ 64 ≤ (((16 : Int32) * a1) + a2).toNatClampNeg then none else some ((q4.2 100 (((16 : Int32) * a1) + a2).toNatClampNeg), q4.2)))
set_option maxRecDepth 50000 in
theorem te_175 {L : Nat} {xs : Nat → Int32} (a1 : Int32) (a2 : Int32) (M : am_M) (q : Int32 × am_M) (h : fd_175 a1 a2 M = some q) : am_ev (tb_P L xs) 175 0 [some (.ref 96), some (.int a1), some (.int a2)] [] sh_A M (some (.int q.1), sh_A, q.2) := by
  unfold fd_175 at h
  refine am_ev_go (pc' := 5) (L' := [some (.ref 96), some (.int a1), some (.int a2)]) (st' := [.int (M 96 0), .int a1]) (sh' := sh_A) (M' := M) 3 rfl ?_
  obtain ⟨q1, hq2, h⟩ := Option.bind_eq_some_iff.mp h
  refine am_ev_call (mj := 148) (as := [.int a1, .int (M 96 0)]) (rest := []) (rv := some (.int q1.1)) (sh' := sh_A) (M' := q1.2) rfl (te_148 _ _ _ _ hq2) ?_
  show am_ev _ 175 8 [some (.ref 96), some (.int a1), some (.int a2)] [.int q1.1] sh_A q1.2 _
  refine am_ev_go (pc' := (am_br .eq q1.1 0 33 11)) (L' := [some (.ref 96), some (.int a1), some (.int a2)]) (st' := []) (sh' := sh_A) (M' := q1.2) 1 rfl ?_
  refine ev_eq (fun hc3 => ?_) (fun hc3 => ?_)
  · rw [if_pos hc3] at h
    refine am_ev_go (pc' := 34) (L' := [some (.ref 96), some (.int a1), some (.int a2)]) (st' := [.int (-1 : Int32)]) (sh' := sh_A) (M' := q1.2) 1 rfl ?_
    cases h
    exact am_ev_ret rfl
  · rw [if_neg hc3] at h
    refine am_ev_go (pc' := 13) (L' := [some (.ref 96), some (.int a1), some (.int a2)]) (st' := [.int a2, .ref 96]) (sh' := sh_A) (M' := q1.2) 2 rfl ?_
    obtain ⟨q4, hq5, h⟩ := Option.bind_eq_some_iff.mp h
    refine am_ev_call (mj := 173) (as := [.ref 96, .int a2]) (rest := []) (rv := some (.int q4.1)) (sh' := sh_A) (M' := q4.2) rfl (te_173 _ _ _ hq5) ?_
    show am_ev _ 175 16 [some (.ref 96), some (.int a1), some (.int a2)] [.int q4.1] sh_A q4.2 _
    refine am_ev_go (pc' := (am_br .eq q4.1 0 33 19)) (L' := [some (.ref 96), some (.int a1), some (.int a2)]) (st' := []) (sh' := sh_A) (M' := q4.2) 1 rfl ?_
    refine ev_eq (fun hc6 => ?_) (fun hc6 => ?_)
    · rw [if_pos hc6] at h
      refine am_ev_go (pc' := 34) (L' := [some (.ref 96), some (.int a1), some (.int a2)]) (st' := [.int (-1 : Int32)]) (sh' := sh_A) (M' := q4.2) 1 rfl ?_
      cases h
      exact am_ev_ret rfl
    · rw [if_neg hc6] at h
      refine am_ev_go (pc' := 29) (L' := [some (.ref 96), some (.int a1), some (.int a2)]) (st' := [.int (((16 : Int32) * a1) + a2), .ref 100]) (sh' := sh_A) (M' := q4.2) 7 rfl ?_
      by_cases hg7 : (((16 : Int32) * a1) + a2) < 0 ∨ 64 ≤ (((16 : Int32) * a1) + a2).toNatClampNeg
      case pos => rw [if_pos hg7] at h; cases h
      rw [if_neg hg7] at h
      refine ev_iald rfl rfl hg7 ?_
      refine am_ev_go (pc' := 34) (L' := [some (.ref 96), some (.int a1), some (.int a2)]) (st' := [.int (q4.2 100 (((16 : Int32) * a1) + a2).toNatClampNeg)]) (sh' := sh_A) (M' := q4.2) 1 rfl ?_
      cases h
      exact am_ev_ret rfl
/-- CountedActorsModel.field(II)I -/
def fd_176 (a1 : Int32) (a2 : Int32) (M : am_M) : Option (Int32 × am_M) := (fd_148 a1 (M 96 0) M).bind fun q1 => if q1.1 = (0 : Int32) then (some ((-1 : Int32), q1.2)) else ((fd_148 a2 (6 : Int32) q1.2).bind fun q4 => if q4.1 = (0 : Int32) then (some ((-1 : Int32), q4.2)) else (if (((6 : Int32) * a1) + a2) < 0 ∨ 24 ≤ (((6 : Int32) * a1) + a2).toNatClampNeg then none else some ((q4.2 101 (((6 : Int32) * a1) + a2).toNatClampNeg), q4.2)))
set_option maxRecDepth 50000 in
theorem te_176 {L : Nat} {xs : Nat → Int32} (a1 : Int32) (a2 : Int32) (M : am_M) (q : Int32 × am_M) (h : fd_176 a1 a2 M = some q) : am_ev (tb_P L xs) 176 0 [some (.ref 96), some (.int a1), some (.int a2)] [] sh_A M (some (.int q.1), sh_A, q.2) := by
  unfold fd_176 at h
  refine am_ev_go (pc' := 5) (L' := [some (.ref 96), some (.int a1), some (.int a2)]) (st' := [.int (M 96 0), .int a1]) (sh' := sh_A) (M' := M) 3 rfl ?_
  obtain ⟨q1, hq2, h⟩ := Option.bind_eq_some_iff.mp h
  refine am_ev_call (mj := 148) (as := [.int a1, .int (M 96 0)]) (rest := []) (rv := some (.int q1.1)) (sh' := sh_A) (M' := q1.2) rfl (te_148 _ _ _ _ hq2) ?_
  show am_ev _ 176 8 [some (.ref 96), some (.int a1), some (.int a2)] [.int q1.1] sh_A q1.2 _
  refine am_ev_go (pc' := (am_br .eq q1.1 0 34 11)) (L' := [some (.ref 96), some (.int a1), some (.int a2)]) (st' := []) (sh' := sh_A) (M' := q1.2) 1 rfl ?_
  refine ev_eq (fun hc3 => ?_) (fun hc3 => ?_)
  · rw [if_pos hc3] at h
    refine am_ev_go (pc' := 35) (L' := [some (.ref 96), some (.int a1), some (.int a2)]) (st' := [.int (-1 : Int32)]) (sh' := sh_A) (M' := q1.2) 1 rfl ?_
    cases h
    exact am_ev_ret rfl
  · rw [if_neg hc3] at h
    refine am_ev_go (pc' := 14) (L' := [some (.ref 96), some (.int a1), some (.int a2)]) (st' := [.int (6 : Int32), .int a2]) (sh' := sh_A) (M' := q1.2) 2 rfl ?_
    obtain ⟨q4, hq5, h⟩ := Option.bind_eq_some_iff.mp h
    refine am_ev_call (mj := 148) (as := [.int a2, .int (6 : Int32)]) (rest := []) (rv := some (.int q4.1)) (sh' := sh_A) (M' := q4.2) rfl (te_148 _ _ _ _ hq5) ?_
    show am_ev _ 176 17 [some (.ref 96), some (.int a1), some (.int a2)] [.int q4.1] sh_A q4.2 _
    refine am_ev_go (pc' := (am_br .eq q4.1 0 34 20)) (L' := [some (.ref 96), some (.int a1), some (.int a2)]) (st' := []) (sh' := sh_A) (M' := q4.2) 1 rfl ?_
    refine ev_eq (fun hc6 => ?_) (fun hc6 => ?_)
    · rw [if_pos hc6] at h
      refine am_ev_go (pc' := 35) (L' := [some (.ref 96), some (.int a1), some (.int a2)]) (st' := [.int (-1 : Int32)]) (sh' := sh_A) (M' := q4.2) 1 rfl ?_
      cases h
      exact am_ev_ret rfl
    · rw [if_neg hc6] at h
      refine am_ev_go (pc' := 30) (L' := [some (.ref 96), some (.int a1), some (.int a2)]) (st' := [.int (((6 : Int32) * a1) + a2), .ref 101]) (sh' := sh_A) (M' := q4.2) 7 rfl ?_
      by_cases hg7 : (((6 : Int32) * a1) + a2) < 0 ∨ 24 ≤ (((6 : Int32) * a1) + a2).toNatClampNeg
      case pos => rw [if_pos hg7] at h; cases h
      rw [if_neg hg7] at h
      refine ev_iald rfl rfl hg7 ?_
      refine am_ev_go (pc' := 35) (L' := [some (.ref 96), some (.int a1), some (.int a2)]) (st' := [.int (q4.2 101 (((6 : Int32) * a1) + a2).toNatClampNeg)]) (sh' := sh_A) (M' := q4.2) 1 rfl ?_
      cases h
      exact am_ev_ret rfl
/-- CountedActorsModel.inner(II)I -/
def fd_177 (a1 : Int32) (a2 : Int32) (M : am_M) : Option (Int32 × am_M) := (fd_173 a1 M).bind fun q1 => if q1.1 = (0 : Int32) then (some ((-1 : Int32), q1.2)) else ((fd_148 a2 (6 : Int32) q1.2).bind fun q4 => if q4.1 = (0 : Int32) then (some ((-1 : Int32), q4.2)) else (if (((6 : Int32) * a1) + a2) < 0 ∨ 96 ≤ (((6 : Int32) * a1) + a2).toNatClampNeg then none else some ((q4.2 99 (((6 : Int32) * a1) + a2).toNatClampNeg), q4.2)))
set_option maxRecDepth 50000 in
theorem te_177 {L : Nat} {xs : Nat → Int32} (a1 : Int32) (a2 : Int32) (M : am_M) (q : Int32 × am_M) (h : fd_177 a1 a2 M = some q) : am_ev (tb_P L xs) 177 0 [some (.ref 96), some (.int a1), some (.int a2)] [] sh_A M (some (.int q.1), sh_A, q.2) := by
  unfold fd_177 at h
  refine am_ev_go (pc' := 2) (L' := [some (.ref 96), some (.int a1), some (.int a2)]) (st' := [.int a1, .ref 96]) (sh' := sh_A) (M' := M) 2 rfl ?_
  obtain ⟨q1, hq2, h⟩ := Option.bind_eq_some_iff.mp h
  refine am_ev_call (mj := 173) (as := [.ref 96, .int a1]) (rest := []) (rv := some (.int q1.1)) (sh' := sh_A) (M' := q1.2) rfl (te_173 _ _ _ hq2) ?_
  show am_ev _ 177 5 [some (.ref 96), some (.int a1), some (.int a2)] [.int q1.1] sh_A q1.2 _
  refine am_ev_go (pc' := (am_br .eq q1.1 0 31 8)) (L' := [some (.ref 96), some (.int a1), some (.int a2)]) (st' := []) (sh' := sh_A) (M' := q1.2) 1 rfl ?_
  refine ev_eq (fun hc3 => ?_) (fun hc3 => ?_)
  · rw [if_pos hc3] at h
    refine am_ev_go (pc' := 32) (L' := [some (.ref 96), some (.int a1), some (.int a2)]) (st' := [.int (-1 : Int32)]) (sh' := sh_A) (M' := q1.2) 1 rfl ?_
    cases h
    exact am_ev_ret rfl
  · rw [if_neg hc3] at h
    refine am_ev_go (pc' := 11) (L' := [some (.ref 96), some (.int a1), some (.int a2)]) (st' := [.int (6 : Int32), .int a2]) (sh' := sh_A) (M' := q1.2) 2 rfl ?_
    obtain ⟨q4, hq5, h⟩ := Option.bind_eq_some_iff.mp h
    refine am_ev_call (mj := 148) (as := [.int a2, .int (6 : Int32)]) (rest := []) (rv := some (.int q4.1)) (sh' := sh_A) (M' := q4.2) rfl (te_148 _ _ _ _ hq5) ?_
    show am_ev _ 177 14 [some (.ref 96), some (.int a1), some (.int a2)] [.int q4.1] sh_A q4.2 _
    refine am_ev_go (pc' := (am_br .eq q4.1 0 31 17)) (L' := [some (.ref 96), some (.int a1), some (.int a2)]) (st' := []) (sh' := sh_A) (M' := q4.2) 1 rfl ?_
    refine ev_eq (fun hc6 => ?_) (fun hc6 => ?_)
    · rw [if_pos hc6] at h
      refine am_ev_go (pc' := 32) (L' := [some (.ref 96), some (.int a1), some (.int a2)]) (st' := [.int (-1 : Int32)]) (sh' := sh_A) (M' := q4.2) 1 rfl ?_
      cases h
      exact am_ev_ret rfl
    · rw [if_neg hc6] at h
      refine am_ev_go (pc' := 27) (L' := [some (.ref 96), some (.int a1), some (.int a2)]) (st' := [.int (((6 : Int32) * a1) + a2), .ref 99]) (sh' := sh_A) (M' := q4.2) 7 rfl ?_
      by_cases hg7 : (((6 : Int32) * a1) + a2) < 0 ∨ 96 ≤ (((6 : Int32) * a1) + a2).toNatClampNeg
      case pos => rw [if_pos hg7] at h; cases h
      rw [if_neg hg7] at h
      refine ev_iald rfl rfl hg7 ?_
      refine am_ev_go (pc' := 32) (L' := [some (.ref 96), some (.int a1), some (.int a2)]) (st' := [.int (q4.2 99 (((6 : Int32) * a1) + a2).toNatClampNeg)]) (sh' := sh_A) (M' := q4.2) 1 rfl ?_
      cases h
      exact am_ev_ret rfl
def fd_179_79 (k2 : Int32 → am_M → Option (am_M)) (x1 : Int32) (M : am_M) : Option (am_M) := k2 (x1 + (1 : Int32)) M
set_option maxRecDepth 50000 in
theorem te_179_79 {L : Nat} {xs : Nat → Int32} {k2 : Int32 → am_M → Option (am_M)} (hk2 : ∀ (x1 : Int32) (M : am_M) (q : am_M) (e2 e3 e4 : Option Value), k2 x1 M = some q → am_ev (tb_P L xs) 179 2 [some (.ref 96), some (.int x1), e2, e3, e4] [] sh_A M (none, sh_A, q)) (x1 : Int32) (M : am_M) (q : am_M) (d2 d3 d4 : Option Value) (h : fd_179_79 k2 x1 M = some q) : am_ev (tb_P L xs) 179 79 [some (.ref 96), some (.int x1), d2, d3, d4] [] sh_A M (none, sh_A, q) := by
  unfold fd_179_79 at h
  refine am_ev_go (pc' := 2) (L' := [some (.ref 96), some (.int (x1 + (1 : Int32))), d2, d3, d4]) (st' := []) (sh' := sh_A) (M' := M) 2 rfl ?_
  exact hk2 _ _ _ _ _ _ h
def fd_179_73 (k32 : Int32 → Int32 → Int32 → am_M → Option (am_M)) (x1 : Int32) (x2 : Int32) (x3 : Int32) (M : am_M) : Option (am_M) := k32 x1 x2 (x3 + (1 : Int32)) M
set_option maxRecDepth 50000 in
theorem te_179_73 {L : Nat} {xs : Nat → Int32} {k32 : Int32 → Int32 → Int32 → am_M → Option (am_M)} (hk32 : ∀ (x1 : Int32) (x2 : Int32) (x3 : Int32) (M : am_M) (q : am_M) (e4 : Option Value), k32 x1 x2 x3 M = some q → am_ev (tb_P L xs) 179 32 [some (.ref 96), some (.int x1), some (.int x2), some (.int x3), e4] [] sh_A M (none, sh_A, q)) (x1 : Int32) (x2 : Int32) (x3 : Int32) (M : am_M) (q : am_M) (d4 : Option Value) (h : fd_179_73 k32 x1 x2 x3 M = some q) : am_ev (tb_P L xs) 179 73 [some (.ref 96), some (.int x1), some (.int x2), some (.int x3), d4] [] sh_A M (none, sh_A, q) := by
  unfold fd_179_73 at h
  refine am_ev_go (pc' := 32) (L' := [some (.ref 96), some (.int x1), some (.int x2), some (.int (x3 + (1 : Int32))), d4]) (st' := []) (sh' := sh_A) (M' := M) 2 rfl ?_
  exact hk32 _ _ _ _ _ _ h
def fd_179_32 (k2 : Int32 → am_M → Option (am_M)) (f : Nat) : Int32 → Int32 → Int32 → am_M → Option (am_M) := Nat.rec (motive := fun _ => Int32 → Int32 → Int32 → am_M → Option (am_M)) (fun _ _ _ _ => none) (fun _ k32 => fun x1 x2 x3 M => if (6 : Int32) ≤ x3 then (fd_179_79 k2 x1 M) else (if ((x1 - x2) + x3) < 0 ∨ 96 ≤ ((x1 - x2) + x3).toNatClampNeg then none else if (M 99 ((x1 - x2) + x3).toNatClampNeg) = (-1 : Int32) then (fd_179_73 k32 x1 x2 x3 M) else ((fd_140 x2 x3 M).bind fun q4 => if (((6 : Int32) * (M 99 ((x1 - x2) + x3).toNatClampNeg)) + q4.1) < 0 ∨ 96 ≤ (((6 : Int32) * (M 99 ((x1 - x2) + x3).toNatClampNeg)) + q4.1).toNatClampNeg then none else fd_179_73 k32 x1 x2 x3 (ds_w q4.2 114 (((6 : Int32) * (M 99 ((x1 - x2) + x3).toNatClampNeg)) + q4.1).toNatClampNeg ((1 : Int32) &&& 1))))) f
set_option maxRecDepth 50000 in
theorem te_179_32 {L : Nat} {xs : Nat → Int32} {k2 : Int32 → am_M → Option (am_M)} (hk2 : ∀ (x1 : Int32) (M : am_M) (q : am_M) (e2 e3 e4 : Option Value), k2 x1 M = some q → am_ev (tb_P L xs) 179 2 [some (.ref 96), some (.int x1), e2, e3, e4] [] sh_A M (none, sh_A, q)) : ∀ (f : Nat) (x1 : Int32) (x2 : Int32) (x3 : Int32) (M : am_M) (q : am_M) (d4 : Option Value), fd_179_32 k2 f x1 x2 x3 M = some q → am_ev (tb_P L xs) 179 32 [some (.ref 96), some (.int x1), some (.int x2), some (.int x3), d4] [] sh_A M (none, sh_A, q) := by
  intro f
  induction f with
  | zero => intro x1 x2 x3 M q d4 h; cases h
  | succ f hk32 =>
    intro x1 x2 x3 M q d4 h
    change (if (6 : Int32) ≤ x3 then (fd_179_79 k2 x1 M) else (if ((x1 - x2) + x3) < 0 ∨ 96 ≤ ((x1 - x2) + x3).toNatClampNeg then none else if (M 99 ((x1 - x2) + x3).toNatClampNeg) = (-1 : Int32) then (fd_179_73 (fd_179_32 k2 f) x1 x2 x3 M) else ((fd_140 x2 x3 M).bind fun q4 => if (((6 : Int32) * (M 99 ((x1 - x2) + x3).toNatClampNeg)) + q4.1) < 0 ∨ 96 ≤ (((6 : Int32) * (M 99 ((x1 - x2) + x3).toNatClampNeg)) + q4.1).toNatClampNeg then none else fd_179_73 (fd_179_32 k2 f) x1 x2 x3 (ds_w q4.2 114 (((6 : Int32) * (M 99 ((x1 - x2) + x3).toNatClampNeg)) + q4.1).toNatClampNeg ((1 : Int32) &&& 1))))) = some q at h
    refine am_ev_go (pc' := (am_br .ge x3 (6 : Int32) 79 38)) (L' := [some (.ref 96), some (.int x1), some (.int x2), some (.int x3), d4]) (st' := []) (sh' := sh_A) (M' := M) 3 rfl ?_
    refine ev_ge (fun hc1 => ?_) (fun hc1 => ?_)
    · rw [if_pos hc1] at h
      exact te_179_79 hk2 _ _ _ _ _ _ h
    · rw [if_neg hc1] at h
      refine am_ev_go (pc' := 47) (L' := [some (.ref 96), some (.int x1), some (.int x2), some (.int x3), d4]) (st' := [.int ((x1 - x2) + x3), .ref 99]) (sh' := sh_A) (M' := M) 7 rfl ?_
      by_cases hg2 : ((x1 - x2) + x3) < 0 ∨ 96 ≤ ((x1 - x2) + x3).toNatClampNeg
      case pos => rw [if_pos hg2] at h; cases h
      rw [if_neg hg2] at h
      refine ev_iald rfl rfl hg2 ?_
      refine am_ev_go (pc' := (am_br .eq (M 99 ((x1 - x2) + x3).toNatClampNeg) (-1 : Int32) 73 56)) (L' := [some (.ref 96), some (.int x1), some (.int x2), some (.int x3), some (.int (M 99 ((x1 - x2) + x3).toNatClampNeg))]) (st' := []) (sh' := sh_A) (M' := M) 4 rfl ?_
      refine ev_eq (fun hc3 => ?_) (fun hc3 => ?_)
      · rw [if_pos hc3] at h
        exact te_179_73 hk32 _ _ _ _ _ _ h
      · rw [if_neg hc3] at h
        refine am_ev_go (pc' := 67) (L' := [some (.ref 96), some (.int x1), some (.int x2), some (.int x3), some (.int (M 99 ((x1 - x2) + x3).toNatClampNeg))]) (st' := [.int x3, .int x2, .int ((6 : Int32) * (M 99 ((x1 - x2) + x3).toNatClampNeg)), .ref 114]) (sh' := sh_A) (M' := M) 7 rfl ?_
        obtain ⟨q4, hq5, h⟩ := Option.bind_eq_some_iff.mp h
        refine am_ev_call (mj := 140) (as := [.int x2, .int x3]) (rest := [.int ((6 : Int32) * (M 99 ((x1 - x2) + x3).toNatClampNeg)), .ref 114]) (rv := some (.int q4.1)) (sh' := sh_A) (M' := q4.2) rfl (te_140 _ _ _ _ hq5) ?_
        show am_ev _ 179 70 [some (.ref 96), some (.int x1), some (.int x2), some (.int x3), some (.int (M 99 ((x1 - x2) + x3).toNatClampNeg))] [.int q4.1, .int ((6 : Int32) * (M 99 ((x1 - x2) + x3).toNatClampNeg)), .ref 114] sh_A q4.2 _
        refine am_ev_go (pc' := 72) (L' := [some (.ref 96), some (.int x1), some (.int x2), some (.int x3), some (.int (M 99 ((x1 - x2) + x3).toNatClampNeg))]) (st' := [.int (1 : Int32), .int (((6 : Int32) * (M 99 ((x1 - x2) + x3).toNatClampNeg)) + q4.1), .ref 114]) (sh' := sh_A) (M' := q4.2) 2 rfl ?_
        by_cases hg6 : (((6 : Int32) * (M 99 ((x1 - x2) + x3).toNatClampNeg)) + q4.1) < 0 ∨ 96 ≤ (((6 : Int32) * (M 99 ((x1 - x2) + x3).toNatClampNeg)) + q4.1).toNatClampNeg
        case pos => rw [if_pos hg6] at h; cases h
        rw [if_neg hg6] at h
        refine ev_bast rfl rfl hg6 ?_
        exact te_179_73 hk32 _ _ _ _ _ _ h
def fd_179_2 (f : Nat) : Int32 → am_M → Option (am_M) := Nat.rec (motive := fun _ => Int32 → am_M → Option (am_M)) (fun _ _ => none) (fun _ k2 => fun x1 M => if (96 : Int32) ≤ x1 then (some M) else (if x1 < 0 ∨ 96 ≤ x1.toNatClampNeg then none else if (M 114 x1.toNatClampNeg) = (0 : Int32) then (fd_179_79 k2 x1 M) else (if (x1 - x1 / (6 : Int32) * (6 : Int32)) = (5 : Int32) then (fd_179_79 k2 x1 M) else (fd_179_32 k2 1000 x1 (x1 - x1 / (6 : Int32) * (6 : Int32)) (0 : Int32) M)))) f
set_option maxRecDepth 50000 in
theorem te_179_2 {L : Nat} {xs : Nat → Int32} : ∀ (f : Nat) (x1 : Int32) (M : am_M) (q : am_M) (d2 d3 d4 : Option Value), fd_179_2 f x1 M = some q → am_ev (tb_P L xs) 179 2 [some (.ref 96), some (.int x1), d2, d3, d4] [] sh_A M (none, sh_A, q) := by
  intro f
  induction f with
  | zero => intro x1 M q d2 d3 d4 h; cases h
  | succ f hk2 =>
    intro x1 M q d2 d3 d4 h
    change (if (96 : Int32) ≤ x1 then (some M) else (if x1 < 0 ∨ 96 ≤ x1.toNatClampNeg then none else if (M 114 x1.toNatClampNeg) = (0 : Int32) then (fd_179_79 (fd_179_2 f) x1 M) else (if (x1 - x1 / (6 : Int32) * (6 : Int32)) = (5 : Int32) then (fd_179_79 (fd_179_2 f) x1 M) else (fd_179_32 (fd_179_2 f) 1000 x1 (x1 - x1 / (6 : Int32) * (6 : Int32)) (0 : Int32) M)))) = some q at h
    refine am_ev_go (pc' := (am_br .ge x1 (96 : Int32) 85 8)) (L' := [some (.ref 96), some (.int x1), d2, d3, d4]) (st' := []) (sh' := sh_A) (M' := M) 3 rfl ?_
    refine ev_ge (fun hc1 => ?_) (fun hc1 => ?_)
    · rw [if_pos hc1] at h
      cases h
      exact am_ev_ret rfl
    · rw [if_neg hc1] at h
      refine am_ev_go (pc' := 18) (L' := [some (.ref 96), some (.int x1), some (.int (x1 - x1 / (6 : Int32) * (6 : Int32))), d3, d4]) (st' := [.int x1, .ref 114]) (sh' := sh_A) (M' := M) 7 rfl ?_
      by_cases hg2 : x1 < 0 ∨ 96 ≤ x1.toNatClampNeg
      case pos => rw [if_pos hg2] at h; cases h
      rw [if_neg hg2] at h
      refine ev_bald rfl rfl hg2 ?_
      refine am_ev_go (pc' := (am_br .eq (M 114 x1.toNatClampNeg) 0 79 22)) (L' := [some (.ref 96), some (.int x1), some (.int (x1 - x1 / (6 : Int32) * (6 : Int32))), d3, d4]) (st' := []) (sh' := sh_A) (M' := M) 1 rfl ?_
      refine ev_eq (fun hc3 => ?_) (fun hc3 => ?_)
      · rw [if_pos hc3] at h
        exact te_179_79 hk2 _ _ _ _ _ _ h
      · rw [if_neg hc3] at h
        refine am_ev_go (pc' := (am_br .ne (x1 - x1 / (6 : Int32) * (6 : Int32)) (5 : Int32) 30 27)) (L' := [some (.ref 96), some (.int x1), some (.int (x1 - x1 / (6 : Int32) * (6 : Int32))), d3, d4]) (st' := []) (sh' := sh_A) (M' := M) 3 rfl ?_
        refine ev_ne (fun hc4 => ?_) (fun hc4 => ?_)
        · rw [if_neg hc4] at h
          refine am_ev_go (pc' := 32) (L' := [some (.ref 96), some (.int x1), some (.int (x1 - x1 / (6 : Int32) * (6 : Int32))), some (.int (0 : Int32)), d4]) (st' := []) (sh' := sh_A) (M' := M) 2 rfl ?_
          exact te_179_32 hk2 1000 _ _ _ _ _ _ h
        · rw [if_pos hc4] at h
          refine am_ev_go (pc' := 79) (L' := [some (.ref 96), some (.int x1), some (.int (x1 - x1 / (6 : Int32) * (6 : Int32))), d3, d4]) (st' := []) (sh' := sh_A) (M' := M) 1 rfl ?_
          exact te_179_79 hk2 _ _ _ _ _ _ h
/-- CountedActorsModel.look()V -/
def fd_179 (M : am_M) : Option (am_M) := fd_179_2 1000 (0 : Int32) M
set_option maxRecDepth 50000 in
theorem te_179 {L : Nat} {xs : Nat → Int32} (M : am_M) (q : am_M) (h : fd_179  M = some q) : am_ev (tb_P L xs) 179 0 [some (.ref 96), none, none, none, none] [] sh_A M (none, sh_A, q) := by
  unfold fd_179 at h
  refine am_ev_go (pc' := 2) (L' := [some (.ref 96), some (.int (0 : Int32)), none, none, none]) (st' := []) (sh' := sh_A) (M' := M) 2 rfl ?_
  exact te_179_2 1000 _ _ _ _ _ _ h
def fd_178_313 (y0 : Int32) (y1 : Int32) (M : am_M) : Option (Int32 × am_M) := some ((y0 + y1), M)
set_option maxRecDepth 50000 in
theorem te_178_313 {L : Nat} {xs : Nat → Int32} (y0 : Int32) (y1 : Int32) (M : am_M) (q : Int32 × am_M) (d0 d1 d2 d3 d4 d5 d6 : Option Value) (h : fd_178_313 y0 y1 M = some q) : am_ev (tb_P L xs) 178 313 [d0, d1, d2, d3, d4, d5, d6] [.int y1, .int y0] sh_A M (some (.int q.1), sh_A, q.2) := by
  unfold fd_178_313 at h
  refine am_ev_go (pc' := 314) (L' := [d0, d1, d2, d3, d4, d5, d6]) (st' := [.int (y0 + y1)]) (sh' := sh_A) (M' := M) 1 rfl ?_
  cases h
  exact am_ev_ret rfl
def fd_178_302 (x5 : Int32) (y0 : Int32) (y1 : Int32) (M : am_M) : Option (Int32 × am_M) := if x5 = (0 : Int32) then (fd_178_313 (y0 + y1) (0 : Int32) M) else (fd_178_313 (y0 + y1) (4 : Int32) M)
set_option maxRecDepth 50000 in
theorem te_178_302 {L : Nat} {xs : Nat → Int32} (x5 : Int32) (y0 : Int32) (y1 : Int32) (M : am_M) (q : Int32 × am_M) (d0 d1 d2 d3 d4 d6 : Option Value) (h : fd_178_302 x5 y0 y1 M = some q) : am_ev (tb_P L xs) 178 302 [d0, d1, d2, d3, d4, some (.int x5), d6] [.int y1, .int y0] sh_A M (some (.int q.1), sh_A, q.2) := by
  unfold fd_178_302 at h
  refine am_ev_go (pc' := (am_br .eq x5 0 312 308)) (L' := [d0, d1, d2, d3, d4, some (.int x5), d6]) (st' := [.int (y0 + y1)]) (sh' := sh_A) (M' := M) 3 rfl ?_
  refine ev_eq (fun hc1 => ?_) (fun hc1 => ?_)
  · rw [if_pos hc1] at h
    refine am_ev_go (pc' := 313) (L' := [d0, d1, d2, d3, d4, some (.int x5), d6]) (st' := [.int (0 : Int32), .int (y0 + y1)]) (sh' := sh_A) (M' := M) 1 rfl ?_
    exact te_178_313 _ _ _ _ _ _ _ _ _ _ _ h
  · rw [if_neg hc1] at h
    refine am_ev_go (pc' := 313) (L' := [d0, d1, d2, d3, d4, some (.int x5), d6]) (st' := [.int (4 : Int32), .int (y0 + y1)]) (sh' := sh_A) (M' := M) 2 rfl ?_
    exact te_178_313 _ _ _ _ _ _ _ _ _ _ _ h
def fd_178_292 (x4 : Int32) (x5 : Int32) (y0 : Int32) (M : am_M) : Option (Int32 × am_M) := if x4 = (0 : Int32) then (fd_178_302 x5 y0 (0 : Int32) M) else (fd_178_302 x5 y0 (2 : Int32) M)
set_option maxRecDepth 50000 in
theorem te_178_292 {L : Nat} {xs : Nat → Int32} (x4 : Int32) (x5 : Int32) (y0 : Int32) (M : am_M) (q : Int32 × am_M) (d0 d1 d2 d3 d6 : Option Value) (h : fd_178_292 x4 x5 y0 M = some q) : am_ev (tb_P L xs) 178 292 [d0, d1, d2, d3, some (.int x4), some (.int x5), d6] [.int y0] sh_A M (some (.int q.1), sh_A, q.2) := by
  unfold fd_178_292 at h
  refine am_ev_go (pc' := (am_br .eq x4 0 301 297)) (L' := [d0, d1, d2, d3, some (.int x4), some (.int x5), d6]) (st' := [.int y0]) (sh' := sh_A) (M' := M) 2 rfl ?_
  refine ev_eq (fun hc1 => ?_) (fun hc1 => ?_)
  · rw [if_pos hc1] at h
    refine am_ev_go (pc' := 302) (L' := [d0, d1, d2, d3, some (.int x4), some (.int x5), d6]) (st' := [.int (0 : Int32), .int y0]) (sh' := sh_A) (M' := M) 1 rfl ?_
    exact te_178_302 _ _ _ _ _ _ _ _ _ _ _ h
  · rw [if_neg hc1] at h
    refine am_ev_go (pc' := 302) (L' := [d0, d1, d2, d3, some (.int x4), some (.int x5), d6]) (st' := [.int (2 : Int32), .int y0]) (sh' := sh_A) (M' := M) 2 rfl ?_
    exact te_178_302 _ _ _ _ _ _ _ _ _ _ _ h
def fd_178_287 (x4 : Int32) (x5 : Int32) (M : am_M) : Option (Int32 × am_M) := fd_178_292 x4 x5 (1 : Int32) M
set_option maxRecDepth 50000 in
theorem te_178_287 {L : Nat} {xs : Nat → Int32} (x4 : Int32) (x5 : Int32) (M : am_M) (q : Int32 × am_M) (d0 d1 d2 d3 d6 : Option Value) (h : fd_178_287 x4 x5 M = some q) : am_ev (tb_P L xs) 178 287 [d0, d1, d2, d3, some (.int x4), some (.int x5), d6] [] sh_A M (some (.int q.1), sh_A, q.2) := by
  unfold fd_178_287 at h
  refine am_ev_go (pc' := 292) (L' := [d0, d1, d2, d3, some (.int x4), some (.int x5), d6]) (st' := [.int (1 : Int32)]) (sh' := sh_A) (M' := M) 2 rfl ?_
  exact te_178_292 _ _ _ _ _ _ _ _ _ _ h
def fd_178_270 (k204 : Int32 → Int32 → Int32 → Int32 → Int32 → am_M → Option (Int32 × am_M)) (x2 : Int32) (x3 : Int32) (x4 : Int32) (x6 : Int32) (y0 : Int32) (M : am_M) : Option (Int32 × am_M) := k204 x2 x3 x4 y0 (x6 + (1 : Int32)) M
set_option maxRecDepth 50000 in
theorem te_178_270 {L : Nat} {xs : Nat → Int32} {k204 : Int32 → Int32 → Int32 → Int32 → Int32 → am_M → Option (Int32 × am_M)} (hk204 : ∀ (x2 : Int32) (x3 : Int32) (x4 : Int32) (x5 : Int32) (x6 : Int32) (M : am_M) (q : Int32 × am_M) (e1 : Option Value), k204 x2 x3 x4 x5 x6 M = some q → am_ev (tb_P L xs) 178 204 [some (.ref 96), e1, some (.int x2), some (.int x3), some (.int x4), some (.int x5), some (.int x6)] [] sh_A M (some (.int q.1), sh_A, q.2)) (x2 : Int32) (x3 : Int32) (x4 : Int32) (x6 : Int32) (y0 : Int32) (M : am_M) (q : Int32 × am_M) (d1 d5 : Option Value) (h : fd_178_270 k204 x2 x3 x4 x6 y0 M = some q) : am_ev (tb_P L xs) 178 270 [some (.ref 96), d1, some (.int x2), some (.int x3), some (.int x4), d5, some (.int x6)] [.int y0] sh_A M (some (.int q.1), sh_A, q.2) := by
  unfold fd_178_270 at h
  refine am_ev_go (pc' := 204) (L' := [some (.ref 96), d1, some (.int x2), some (.int x3), some (.int x4), some (.int y0), some (.int (x6 + (1 : Int32)))]) (st' := []) (sh' := sh_A) (M' := M) 3 rfl ?_
  exact hk204 _ _ _ _ _ _ _ _ h
def fd_178_269 (k204 : Int32 → Int32 → Int32 → Int32 → Int32 → am_M → Option (Int32 × am_M)) (x2 : Int32) (x3 : Int32) (x4 : Int32) (x6 : Int32) (M : am_M) : Option (Int32 × am_M) := fd_178_270 k204 x2 x3 x4 x6 (0 : Int32) M
set_option maxRecDepth 50000 in
theorem te_178_269 {L : Nat} {xs : Nat → Int32} {k204 : Int32 → Int32 → Int32 → Int32 → Int32 → am_M → Option (Int32 × am_M)} (hk204 : ∀ (x2 : Int32) (x3 : Int32) (x4 : Int32) (x5 : Int32) (x6 : Int32) (M : am_M) (q : Int32 × am_M) (e1 : Option Value), k204 x2 x3 x4 x5 x6 M = some q → am_ev (tb_P L xs) 178 204 [some (.ref 96), e1, some (.int x2), some (.int x3), some (.int x4), some (.int x5), some (.int x6)] [] sh_A M (some (.int q.1), sh_A, q.2)) (x2 : Int32) (x3 : Int32) (x4 : Int32) (x6 : Int32) (M : am_M) (q : Int32 × am_M) (d1 d5 : Option Value) (h : fd_178_269 k204 x2 x3 x4 x6 M = some q) : am_ev (tb_P L xs) 178 269 [some (.ref 96), d1, some (.int x2), some (.int x3), some (.int x4), d5, some (.int x6)] [] sh_A M (some (.int q.1), sh_A, q.2) := by
  unfold fd_178_269 at h
  refine am_ev_go (pc' := 270) (L' := [some (.ref 96), d1, some (.int x2), some (.int x3), some (.int x4), d5, some (.int x6)]) (st' := [.int (0 : Int32)]) (sh' := sh_A) (M' := M) 1 rfl ?_
  exact te_178_270 hk204 _ _ _ _ _ _ _ _ _ h
def fd_178_265 (k204 : Int32 → Int32 → Int32 → Int32 → Int32 → am_M → Option (Int32 × am_M)) (x2 : Int32) (x3 : Int32) (x4 : Int32) (x6 : Int32) (M : am_M) : Option (Int32 × am_M) := fd_178_270 k204 x2 x3 x4 x6 (1 : Int32) M
set_option maxRecDepth 50000 in
theorem te_178_265 {L : Nat} {xs : Nat → Int32} {k204 : Int32 → Int32 → Int32 → Int32 → Int32 → am_M → Option (Int32 × am_M)} (hk204 : ∀ (x2 : Int32) (x3 : Int32) (x4 : Int32) (x5 : Int32) (x6 : Int32) (M : am_M) (q : Int32 × am_M) (e1 : Option Value), k204 x2 x3 x4 x5 x6 M = some q → am_ev (tb_P L xs) 178 204 [some (.ref 96), e1, some (.int x2), some (.int x3), some (.int x4), some (.int x5), some (.int x6)] [] sh_A M (some (.int q.1), sh_A, q.2)) (x2 : Int32) (x3 : Int32) (x4 : Int32) (x6 : Int32) (M : am_M) (q : Int32 × am_M) (d1 d5 : Option Value) (h : fd_178_265 k204 x2 x3 x4 x6 M = some q) : am_ev (tb_P L xs) 178 265 [some (.ref 96), d1, some (.int x2), some (.int x3), some (.int x4), d5, some (.int x6)] [] sh_A M (some (.int q.1), sh_A, q.2) := by
  unfold fd_178_265 at h
  refine am_ev_go (pc' := 270) (L' := [some (.ref 96), d1, some (.int x2), some (.int x3), some (.int x4), d5, some (.int x6)]) (st' := [.int (1 : Int32)]) (sh' := sh_A) (M' := M) 2 rfl ?_
  exact te_178_270 hk204 _ _ _ _ _ _ _ _ _ h
def fd_178_235 (k204 : Int32 → Int32 → Int32 → Int32 → Int32 → am_M → Option (Int32 × am_M)) (x2 : Int32) (x3 : Int32) (x5 : Int32) (x6 : Int32) (y0 : Int32) (M : am_M) : Option (Int32 × am_M) := if x5 = (0 : Int32) then (if (((6 : Int32) * x2) + x6) < 0 ∨ 96 ≤ (((6 : Int32) * x2) + x6).toNatClampNeg then none else if (M 114 (((6 : Int32) * x2) + x6).toNatClampNeg) = (0 : Int32) then (fd_178_269 k204 x2 x3 y0 x6 M) else ((fd_144 x6 M).bind fun q4 => if q4.1 = (0 : Int32) then (fd_178_269 k204 x2 x3 y0 x6 q4.2) else (fd_178_265 k204 x2 x3 y0 x6 q4.2))) else (fd_178_265 k204 x2 x3 y0 x6 M)
set_option maxRecDepth 50000 in
theorem te_178_235 {L : Nat} {xs : Nat → Int32} {k204 : Int32 → Int32 → Int32 → Int32 → Int32 → am_M → Option (Int32 × am_M)} (hk204 : ∀ (x2 : Int32) (x3 : Int32) (x4 : Int32) (x5 : Int32) (x6 : Int32) (M : am_M) (q : Int32 × am_M) (e1 : Option Value), k204 x2 x3 x4 x5 x6 M = some q → am_ev (tb_P L xs) 178 204 [some (.ref 96), e1, some (.int x2), some (.int x3), some (.int x4), some (.int x5), some (.int x6)] [] sh_A M (some (.int q.1), sh_A, q.2)) (x2 : Int32) (x3 : Int32) (x5 : Int32) (x6 : Int32) (y0 : Int32) (M : am_M) (q : Int32 × am_M) (d1 d4 : Option Value) (h : fd_178_235 k204 x2 x3 x5 x6 y0 M = some q) : am_ev (tb_P L xs) 178 235 [some (.ref 96), d1, some (.int x2), some (.int x3), d4, some (.int x5), some (.int x6)] [.int y0] sh_A M (some (.int q.1), sh_A, q.2) := by
  unfold fd_178_235 at h
  refine am_ev_go (pc' := (am_br .ne x5 0 265 242)) (L' := [some (.ref 96), d1, some (.int x2), some (.int x3), some (.int y0), some (.int x5), some (.int x6)]) (st' := []) (sh' := sh_A) (M' := M) 3 rfl ?_
  refine ev_ne (fun hc1 => ?_) (fun hc1 => ?_)
  · rw [if_neg hc1] at h
    exact te_178_265 hk204 _ _ _ _ _ _ _ _ h
  · rw [if_pos hc1] at h
    refine am_ev_go (pc' := 253) (L' := [some (.ref 96), d1, some (.int x2), some (.int x3), some (.int y0), some (.int x5), some (.int x6)]) (st' := [.int (((6 : Int32) * x2) + x6), .ref 114]) (sh' := sh_A) (M' := M) 7 rfl ?_
    by_cases hg2 : (((6 : Int32) * x2) + x6) < 0 ∨ 96 ≤ (((6 : Int32) * x2) + x6).toNatClampNeg
    case pos => rw [if_pos hg2] at h; cases h
    rw [if_neg hg2] at h
    refine ev_bald rfl rfl hg2 ?_
    refine am_ev_go (pc' := (am_br .eq (M 114 (((6 : Int32) * x2) + x6).toNatClampNeg) 0 269 257)) (L' := [some (.ref 96), d1, some (.int x2), some (.int x3), some (.int y0), some (.int x5), some (.int x6)]) (st' := []) (sh' := sh_A) (M' := M) 1 rfl ?_
    refine ev_eq (fun hc3 => ?_) (fun hc3 => ?_)
    · rw [if_pos hc3] at h
      exact te_178_269 hk204 _ _ _ _ _ _ _ _ h
    · rw [if_neg hc3] at h
      refine am_ev_go (pc' := 259) (L' := [some (.ref 96), d1, some (.int x2), some (.int x3), some (.int y0), some (.int x5), some (.int x6)]) (st' := [.int x6]) (sh' := sh_A) (M' := M) 1 rfl ?_
      obtain ⟨q4, hq5, h⟩ := Option.bind_eq_some_iff.mp h
      refine am_ev_call (mj := 144) (as := [.int x6]) (rest := []) (rv := some (.int q4.1)) (sh' := sh_A) (M' := q4.2) rfl (te_144 _ _ _ hq5) ?_
      show am_ev _ 178 262 [some (.ref 96), d1, some (.int x2), some (.int x3), some (.int y0), some (.int x5), some (.int x6)] [.int q4.1] sh_A q4.2 _
      refine am_ev_go (pc' := (am_br .eq q4.1 0 269 265)) (L' := [some (.ref 96), d1, some (.int x2), some (.int x3), some (.int y0), some (.int x5), some (.int x6)]) (st' := []) (sh' := sh_A) (M' := q4.2) 1 rfl ?_
      refine ev_eq (fun hc6 => ?_) (fun hc6 => ?_)
      · rw [if_pos hc6] at h
        exact te_178_269 hk204 _ _ _ _ _ _ _ _ h
      · rw [if_neg hc6] at h
        exact te_178_265 hk204 _ _ _ _ _ _ _ _ h
def fd_178_230 (k204 : Int32 → Int32 → Int32 → Int32 → Int32 → am_M → Option (Int32 × am_M)) (x2 : Int32) (x3 : Int32) (x5 : Int32) (x6 : Int32) (M : am_M) : Option (Int32 × am_M) := fd_178_235 k204 x2 x3 x5 x6 (1 : Int32) M
set_option maxRecDepth 50000 in
theorem te_178_230 {L : Nat} {xs : Nat → Int32} {k204 : Int32 → Int32 → Int32 → Int32 → Int32 → am_M → Option (Int32 × am_M)} (hk204 : ∀ (x2 : Int32) (x3 : Int32) (x4 : Int32) (x5 : Int32) (x6 : Int32) (M : am_M) (q : Int32 × am_M) (e1 : Option Value), k204 x2 x3 x4 x5 x6 M = some q → am_ev (tb_P L xs) 178 204 [some (.ref 96), e1, some (.int x2), some (.int x3), some (.int x4), some (.int x5), some (.int x6)] [] sh_A M (some (.int q.1), sh_A, q.2)) (x2 : Int32) (x3 : Int32) (x5 : Int32) (x6 : Int32) (M : am_M) (q : Int32 × am_M) (d1 d4 : Option Value) (h : fd_178_230 k204 x2 x3 x5 x6 M = some q) : am_ev (tb_P L xs) 178 230 [some (.ref 96), d1, some (.int x2), some (.int x3), d4, some (.int x5), some (.int x6)] [] sh_A M (some (.int q.1), sh_A, q.2) := by
  unfold fd_178_230 at h
  refine am_ev_go (pc' := 235) (L' := [some (.ref 96), d1, some (.int x2), some (.int x3), d4, some (.int x5), some (.int x6)]) (st' := [.int (1 : Int32)]) (sh' := sh_A) (M' := M) 2 rfl ?_
  exact te_178_235 hk204 _ _ _ _ _ _ _ _ _ h
def fd_178_204 (f : Nat) : Int32 → Int32 → Int32 → Int32 → Int32 → am_M → Option (Int32 × am_M) := Nat.rec (motive := fun _ => Int32 → Int32 → Int32 → Int32 → Int32 → am_M → Option (Int32 × am_M)) (fun _ _ _ _ _ _ => none) (fun _ k204 => fun x2 x3 x4 x5 x6 M => if (5 : Int32) ≤ x6 then (if x3 = (0 : Int32) then (if x4 = (0 : Int32) then (fd_178_292 x4 x5 (0 : Int32) M) else (fd_178_287 x4 x5 M)) else (fd_178_287 x4 x5 M)) else (if x4 = (0 : Int32) then (if (((6 : Int32) * x2) + x6) < 0 ∨ 96 ≤ (((6 : Int32) * x2) + x6).toNatClampNeg then none else if (M 114 (((6 : Int32) * x2) + x6).toNatClampNeg) = (0 : Int32) then (fd_178_235 k204 x2 x3 x5 x6 (0 : Int32) M) else (fd_178_230 k204 x2 x3 x5 x6 M)) else (fd_178_230 k204 x2 x3 x5 x6 M))) f
set_option maxRecDepth 50000 in
theorem te_178_204 {L : Nat} {xs : Nat → Int32} : ∀ (f : Nat) (x2 : Int32) (x3 : Int32) (x4 : Int32) (x5 : Int32) (x6 : Int32) (M : am_M) (q : Int32 × am_M) (d1 : Option Value), fd_178_204 f x2 x3 x4 x5 x6 M = some q → am_ev (tb_P L xs) 178 204 [some (.ref 96), d1, some (.int x2), some (.int x3), some (.int x4), some (.int x5), some (.int x6)] [] sh_A M (some (.int q.1), sh_A, q.2) := by
  intro f
  induction f with
  | zero => intro x2 x3 x4 x5 x6 M q d1 h; cases h
  | succ f hk204 =>
    intro x2 x3 x4 x5 x6 M q d1 h
    change (if (5 : Int32) ≤ x6 then (if x3 = (0 : Int32) then (if x4 = (0 : Int32) then (fd_178_292 x4 x5 (0 : Int32) M) else (fd_178_287 x4 x5 M)) else (fd_178_287 x4 x5 M)) else (if x4 = (0 : Int32) then (if (((6 : Int32) * x2) + x6) < 0 ∨ 96 ≤ (((6 : Int32) * x2) + x6).toNatClampNeg then none else if (M 114 (((6 : Int32) * x2) + x6).toNatClampNeg) = (0 : Int32) then (fd_178_235 (fd_178_204 f) x2 x3 x5 x6 (0 : Int32) M) else (fd_178_230 (fd_178_204 f) x2 x3 x5 x6 M)) else (fd_178_230 (fd_178_204 f) x2 x3 x5 x6 M))) = some q at h
    refine am_ev_go (pc' := (am_br .ge x6 (5 : Int32) 278 210)) (L' := [some (.ref 96), d1, some (.int x2), some (.int x3), some (.int x4), some (.int x5), some (.int x6)]) (st' := []) (sh' := sh_A) (M' := M) 3 rfl ?_
    refine ev_ge (fun hc1 => ?_) (fun hc1 => ?_)
    · rw [if_pos hc1] at h
      refine am_ev_go (pc' := (am_br .ne x3 0 287 282)) (L' := [some (.ref 96), d1, some (.int x2), some (.int x3), some (.int x4), some (.int x5), some (.int x6)]) (st' := []) (sh' := sh_A) (M' := M) 2 rfl ?_
      refine ev_ne (fun hc2 => ?_) (fun hc2 => ?_)
      · rw [if_neg hc2] at h
        exact te_178_287 _ _ _ _ _ _ _ _ _ h
      · rw [if_pos hc2] at h
        refine am_ev_go (pc' := (am_br .eq x4 0 291 287)) (L' := [some (.ref 96), d1, some (.int x2), some (.int x3), some (.int x4), some (.int x5), some (.int x6)]) (st' := []) (sh' := sh_A) (M' := M) 2 rfl ?_
        refine ev_eq (fun hc3 => ?_) (fun hc3 => ?_)
        · rw [if_pos hc3] at h
          refine am_ev_go (pc' := 292) (L' := [some (.ref 96), d1, some (.int x2), some (.int x3), some (.int x4), some (.int x5), some (.int x6)]) (st' := [.int (0 : Int32)]) (sh' := sh_A) (M' := M) 1 rfl ?_
          exact te_178_292 _ _ _ _ _ _ _ _ _ _ h
        · rw [if_neg hc3] at h
          exact te_178_287 _ _ _ _ _ _ _ _ _ h
    · rw [if_neg hc1] at h
      refine am_ev_go (pc' := (am_br .ne x4 0 230 215)) (L' := [some (.ref 96), d1, some (.int x2), some (.int x3), some (.int x4), some (.int x5), some (.int x6)]) (st' := []) (sh' := sh_A) (M' := M) 2 rfl ?_
      refine ev_ne (fun hc4 => ?_) (fun hc4 => ?_)
      · rw [if_neg hc4] at h
        exact te_178_230 hk204 _ _ _ _ _ _ _ _ h
      · rw [if_pos hc4] at h
        refine am_ev_go (pc' := 226) (L' := [some (.ref 96), d1, some (.int x2), some (.int x3), some (.int x4), some (.int x5), some (.int x6)]) (st' := [.int (((6 : Int32) * x2) + x6), .ref 114]) (sh' := sh_A) (M' := M) 7 rfl ?_
        by_cases hg5 : (((6 : Int32) * x2) + x6) < 0 ∨ 96 ≤ (((6 : Int32) * x2) + x6).toNatClampNeg
        case pos => rw [if_pos hg5] at h; cases h
        rw [if_neg hg5] at h
        refine ev_bald rfl rfl hg5 ?_
        refine am_ev_go (pc' := (am_br .eq (M 114 (((6 : Int32) * x2) + x6).toNatClampNeg) 0 234 230)) (L' := [some (.ref 96), d1, some (.int x2), some (.int x3), some (.int x4), some (.int x5), some (.int x6)]) (st' := []) (sh' := sh_A) (M' := M) 1 rfl ?_
        refine ev_eq (fun hc6 => ?_) (fun hc6 => ?_)
        · rw [if_pos hc6] at h
          refine am_ev_go (pc' := 235) (L' := [some (.ref 96), d1, some (.int x2), some (.int x3), some (.int x4), some (.int x5), some (.int x6)]) (st' := [.int (0 : Int32)]) (sh' := sh_A) (M' := M) 1 rfl ?_
          exact te_178_235 hk204 _ _ _ _ _ _ _ _ _ h
        · rw [if_neg hc6] at h
          exact te_178_230 hk204 _ _ _ _ _ _ _ _ h
def fd_178_167 (f : Nat) : Int32 → Int32 → am_M → Option (Int32 × am_M) := Nat.rec (motive := fun _ => Int32 → Int32 → am_M → Option (Int32 × am_M)) (fun _ _ _ => none) (fun _ k167 => fun x2 x3 M => if (96 : Int32) ≤ x3 then (if (((6 : Int32) * x2) + (5 : Int32)) < 0 ∨ 96 ≤ (((6 : Int32) * x2) + (5 : Int32)).toNatClampNeg then none else fd_178_204 1000 x2 (M 114 (((6 : Int32) * x2) + (5 : Int32)).toNatClampNeg) (0 : Int32) (0 : Int32) (0 : Int32) M) else ((fd_179 M).bind fun q3 => k167 x2 (x3 + (1 : Int32)) q3)) f
set_option maxRecDepth 50000 in
theorem te_178_167 {L : Nat} {xs : Nat → Int32} : ∀ (f : Nat) (x2 : Int32) (x3 : Int32) (M : am_M) (q : Int32 × am_M) (d1 d4 d5 d6 : Option Value), fd_178_167 f x2 x3 M = some q → am_ev (tb_P L xs) 178 167 [some (.ref 96), d1, some (.int x2), some (.int x3), d4, d5, d6] [] sh_A M (some (.int q.1), sh_A, q.2) := by
  intro f
  induction f with
  | zero => intro x2 x3 M q d1 d4 d5 d6 h; cases h
  | succ f hk167 =>
    intro x2 x3 M q d1 d4 d5 d6 h
    change (if (96 : Int32) ≤ x3 then (if (((6 : Int32) * x2) + (5 : Int32)) < 0 ∨ 96 ≤ (((6 : Int32) * x2) + (5 : Int32)).toNatClampNeg then none else fd_178_204 1000 x2 (M 114 (((6 : Int32) * x2) + (5 : Int32)).toNatClampNeg) (0 : Int32) (0 : Int32) (0 : Int32) M) else ((fd_179 M).bind fun q3 => (fd_178_167 f) x2 (x3 + (1 : Int32)) q3)) = some q at h
    refine am_ev_go (pc' := (am_br .ge x3 (96 : Int32) 183 173)) (L' := [some (.ref 96), d1, some (.int x2), some (.int x3), d4, d5, d6]) (st' := []) (sh' := sh_A) (M' := M) 3 rfl ?_
    refine ev_ge (fun hc1 => ?_) (fun hc1 => ?_)
    · rw [if_pos hc1] at h
      refine am_ev_go (pc' := 193) (L' := [some (.ref 96), d1, some (.int x2), some (.int x3), d4, d5, d6]) (st' := [.int (((6 : Int32) * x2) + (5 : Int32)), .ref 114]) (sh' := sh_A) (M' := M) 7 rfl ?_
      by_cases hg2 : (((6 : Int32) * x2) + (5 : Int32)) < 0 ∨ 96 ≤ (((6 : Int32) * x2) + (5 : Int32)).toNatClampNeg
      case pos => rw [if_pos hg2] at h; cases h
      rw [if_neg hg2] at h
      refine ev_bald rfl rfl hg2 ?_
      refine am_ev_go (pc' := 204) (L' := [some (.ref 96), d1, some (.int x2), some (.int (M 114 (((6 : Int32) * x2) + (5 : Int32)).toNatClampNeg)), some (.int (0 : Int32)), some (.int (0 : Int32)), some (.int (0 : Int32))]) (st' := []) (sh' := sh_A) (M' := M) 7 rfl ?_
      exact te_178_204 1000 _ _ _ _ _ _ _ _ h
    · rw [if_neg hc1] at h
      refine am_ev_go (pc' := 174) (L' := [some (.ref 96), d1, some (.int x2), some (.int x3), d4, d5, d6]) (st' := [.ref 96]) (sh' := sh_A) (M' := M) 1 rfl ?_
      obtain ⟨q3, hq4, h⟩ := Option.bind_eq_some_iff.mp h
      refine am_ev_call (mj := 179) (as := [.ref 96]) (rest := []) (rv := none) (sh' := sh_A) (M' := q3) rfl (te_179 _ _ hq4) ?_
      show am_ev _ 178 177 [some (.ref 96), d1, some (.int x2), some (.int x3), d4, d5, d6] [] sh_A q3 _
      refine am_ev_go (pc' := 167) (L' := [some (.ref 96), d1, some (.int x2), some (.int (x3 + (1 : Int32))), d4, d5, d6]) (st' := []) (sh' := sh_A) (M' := q3) 2 rfl ?_
      exact hk167 _ _ _ _ _ _ _ _ h
def fd_178_159 (k95 : Int32 → Int32 → Int32 → am_M → Option (Int32 × am_M)) (x1 : Int32) (x2 : Int32) (x3 : Int32) (M : am_M) : Option (Int32 × am_M) := k95 x1 x2 (x3 + (1 : Int32)) M
set_option maxRecDepth 50000 in
theorem te_178_159 {L : Nat} {xs : Nat → Int32} {k95 : Int32 → Int32 → Int32 → am_M → Option (Int32 × am_M)} (hk95 : ∀ (x1 : Int32) (x2 : Int32) (x3 : Int32) (M : am_M) (q : Int32 × am_M) (e4 e5 e6 : Option Value), k95 x1 x2 x3 M = some q → am_ev (tb_P L xs) 178 95 [some (.ref 96), some (.int x1), some (.int x2), some (.int x3), e4, e5, e6] [] sh_A M (some (.int q.1), sh_A, q.2)) (x1 : Int32) (x2 : Int32) (x3 : Int32) (M : am_M) (q : Int32 × am_M) (d4 d5 d6 : Option Value) (h : fd_178_159 k95 x1 x2 x3 M = some q) : am_ev (tb_P L xs) 178 159 [some (.ref 96), some (.int x1), some (.int x2), some (.int x3), d4, d5, d6] [] sh_A M (some (.int q.1), sh_A, q.2) := by
  unfold fd_178_159 at h
  refine am_ev_go (pc' := 95) (L' := [some (.ref 96), some (.int x1), some (.int x2), some (.int (x3 + (1 : Int32))), d4, d5, d6]) (st' := []) (sh' := sh_A) (M' := M) 2 rfl ?_
  exact hk95 _ _ _ _ _ _ _ _ h
def fd_178_95 (f : Nat) : Int32 → Int32 → Int32 → am_M → Option (Int32 × am_M) := Nat.rec (motive := fun _ => Int32 → Int32 → Int32 → am_M → Option (Int32 × am_M)) (fun _ _ _ _ => none) (fun _ k95 => fun x1 x2 x3 M => if (M 96 15) ≤ x3 then (fd_178_167 1000 x2 (0 : Int32) M) else (if x3 < 0 ∨ 20 ≤ x3.toNatClampNeg then none else if (M 108 x3.toNatClampNeg) = (0 : Int32) then (if x3 < 0 ∨ 20 ≤ x3.toNatClampNeg then none else if (M 109 x3.toNatClampNeg) = x1 then (if x3 < 0 ∨ 20 ≤ x3.toNatClampNeg then none else if (M 111 x3.toNatClampNeg) = (-1 : Int32) then (fd_178_159 k95 x1 x2 x3 M) else (if x3 < 0 ∨ 20 ≤ x3.toNatClampNeg then none else if x3 < 0 ∨ 20 ≤ x3.toNatClampNeg then none else if (M 110 x3.toNatClampNeg) < 0 ∨ 6 ≤ (M 110 x3.toNatClampNeg).toNatClampNeg then none else if (((6 : Int32) * (M 111 x3.toNatClampNeg)) + (M 102 (M 110 x3.toNatClampNeg).toNatClampNeg)) < 0 ∨ 96 ≤ (((6 : Int32) * (M 111 x3.toNatClampNeg)) + (M 102 (M 110 x3.toNatClampNeg).toNatClampNeg)).toNatClampNeg then none else fd_178_159 k95 x1 x2 x3 (ds_w M 114 (((6 : Int32) * (M 111 x3.toNatClampNeg)) + (M 102 (M 110 x3.toNatClampNeg).toNatClampNeg)).toNatClampNeg ((1 : Int32) &&& 1)))) else (fd_178_159 k95 x1 x2 x3 M)) else (fd_178_159 k95 x1 x2 x3 M))) f
set_option maxRecDepth 50000 in
theorem te_178_95 {L : Nat} {xs : Nat → Int32} : ∀ (f : Nat) (x1 : Int32) (x2 : Int32) (x3 : Int32) (M : am_M) (q : Int32 × am_M) (d4 d5 d6 : Option Value), fd_178_95 f x1 x2 x3 M = some q → am_ev (tb_P L xs) 178 95 [some (.ref 96), some (.int x1), some (.int x2), some (.int x3), d4, d5, d6] [] sh_A M (some (.int q.1), sh_A, q.2) := by
  intro f
  induction f with
  | zero => intro x1 x2 x3 M q d4 d5 d6 h; cases h
  | succ f hk95 =>
    intro x1 x2 x3 M q d4 d5 d6 h
    change (if (M 96 15) ≤ x3 then (fd_178_167 1000 x2 (0 : Int32) M) else (if x3 < 0 ∨ 20 ≤ x3.toNatClampNeg then none else if (M 108 x3.toNatClampNeg) = (0 : Int32) then (if x3 < 0 ∨ 20 ≤ x3.toNatClampNeg then none else if (M 109 x3.toNatClampNeg) = x1 then (if x3 < 0 ∨ 20 ≤ x3.toNatClampNeg then none else if (M 111 x3.toNatClampNeg) = (-1 : Int32) then (fd_178_159 (fd_178_95 f) x1 x2 x3 M) else (if x3 < 0 ∨ 20 ≤ x3.toNatClampNeg then none else if x3 < 0 ∨ 20 ≤ x3.toNatClampNeg then none else if (M 110 x3.toNatClampNeg) < 0 ∨ 6 ≤ (M 110 x3.toNatClampNeg).toNatClampNeg then none else if (((6 : Int32) * (M 111 x3.toNatClampNeg)) + (M 102 (M 110 x3.toNatClampNeg).toNatClampNeg)) < 0 ∨ 96 ≤ (((6 : Int32) * (M 111 x3.toNatClampNeg)) + (M 102 (M 110 x3.toNatClampNeg).toNatClampNeg)).toNatClampNeg then none else fd_178_159 (fd_178_95 f) x1 x2 x3 (ds_w M 114 (((6 : Int32) * (M 111 x3.toNatClampNeg)) + (M 102 (M 110 x3.toNatClampNeg).toNatClampNeg)).toNatClampNeg ((1 : Int32) &&& 1)))) else (fd_178_159 (fd_178_95 f) x1 x2 x3 M)) else (fd_178_159 (fd_178_95 f) x1 x2 x3 M))) = some q at h
    refine am_ev_go (pc' := (am_br .ge x3 (M 96 15) 165 103)) (L' := [some (.ref 96), some (.int x1), some (.int x2), some (.int x3), d4, d5, d6]) (st' := []) (sh' := sh_A) (M' := M) 4 rfl ?_
    refine ev_ge (fun hc1 => ?_) (fun hc1 => ?_)
    · rw [if_pos hc1] at h
      refine am_ev_go (pc' := 167) (L' := [some (.ref 96), some (.int x1), some (.int x2), some (.int (0 : Int32)), d4, d5, d6]) (st' := []) (sh' := sh_A) (M' := M) 2 rfl ?_
      exact te_178_167 1000 _ _ _ _ _ _ _ _ h
    · rw [if_neg hc1] at h
      refine am_ev_go (pc' := 108) (L' := [some (.ref 96), some (.int x1), some (.int x2), some (.int x3), d4, d5, d6]) (st' := [.int x3, .ref 108]) (sh' := sh_A) (M' := M) 3 rfl ?_
      by_cases hg2 : x3 < 0 ∨ 20 ≤ x3.toNatClampNeg
      case pos => rw [if_pos hg2] at h; cases h
      rw [if_neg hg2] at h
      refine ev_iald rfl rfl hg2 ?_
      refine am_ev_go (pc' := (am_br .ne (M 108 x3.toNatClampNeg) 0 159 112)) (L' := [some (.ref 96), some (.int x1), some (.int x2), some (.int x3), d4, d5, d6]) (st' := []) (sh' := sh_A) (M' := M) 1 rfl ?_
      refine ev_ne (fun hc3 => ?_) (fun hc3 => ?_)
      · rw [if_neg hc3] at h
        exact te_178_159 hk95 _ _ _ _ _ _ _ _ h
      · rw [if_pos hc3] at h
        refine am_ev_go (pc' := 117) (L' := [some (.ref 96), some (.int x1), some (.int x2), some (.int x3), d4, d5, d6]) (st' := [.int x3, .ref 109]) (sh' := sh_A) (M' := M) 3 rfl ?_
        by_cases hg4 : x3 < 0 ∨ 20 ≤ x3.toNatClampNeg
        case pos => rw [if_pos hg4] at h; cases h
        rw [if_neg hg4] at h
        refine ev_iald rfl rfl hg4 ?_
        refine am_ev_go (pc' := (am_br .ne (M 109 x3.toNatClampNeg) x1 159 122)) (L' := [some (.ref 96), some (.int x1), some (.int x2), some (.int x3), d4, d5, d6]) (st' := []) (sh' := sh_A) (M' := M) 2 rfl ?_
        refine ev_ne (fun hc5 => ?_) (fun hc5 => ?_)
        · rw [if_neg hc5] at h
          exact te_178_159 hk95 _ _ _ _ _ _ _ _ h
        · rw [if_pos hc5] at h
          refine am_ev_go (pc' := 127) (L' := [some (.ref 96), some (.int x1), some (.int x2), some (.int x3), d4, d5, d6]) (st' := [.int x3, .ref 111]) (sh' := sh_A) (M' := M) 3 rfl ?_
          by_cases hg6 : x3 < 0 ∨ 20 ≤ x3.toNatClampNeg
          case pos => rw [if_pos hg6] at h; cases h
          rw [if_neg hg6] at h
          refine ev_iald rfl rfl hg6 ?_
          refine am_ev_go (pc' := (am_br .eq (M 111 x3.toNatClampNeg) (-1 : Int32) 159 132)) (L' := [some (.ref 96), some (.int x1), some (.int x2), some (.int x3), d4, d5, d6]) (st' := []) (sh' := sh_A) (M' := M) 2 rfl ?_
          refine ev_eq (fun hc7 => ?_) (fun hc7 => ?_)
          · rw [if_pos hc7] at h
            exact te_178_159 hk95 _ _ _ _ _ _ _ _ h
          · rw [if_neg hc7] at h
            refine am_ev_go (pc' := 143) (L' := [some (.ref 96), some (.int x1), some (.int x2), some (.int x3), d4, d5, d6]) (st' := [.int x3, .ref 111, .int (6 : Int32), .ref 114]) (sh' := sh_A) (M' := M) 6 rfl ?_
            by_cases hg8 : x3 < 0 ∨ 20 ≤ x3.toNatClampNeg
            case pos => rw [if_pos hg8] at h; cases h
            rw [if_neg hg8] at h
            refine ev_iald rfl rfl hg8 ?_
            refine am_ev_go (pc' := 154) (L' := [some (.ref 96), some (.int x1), some (.int x2), some (.int x3), d4, d5, d6]) (st' := [.int x3, .ref 110, .ref 102, .int ((6 : Int32) * (M 111 x3.toNatClampNeg)), .ref 114]) (sh' := sh_A) (M' := M) 6 rfl ?_
            by_cases hg9 : x3 < 0 ∨ 20 ≤ x3.toNatClampNeg
            case pos => rw [if_pos hg9] at h; cases h
            rw [if_neg hg9] at h
            refine ev_iald rfl rfl hg9 ?_
            by_cases hg10 : (M 110 x3.toNatClampNeg) < 0 ∨ 6 ≤ (M 110 x3.toNatClampNeg).toNatClampNeg
            case pos => rw [if_pos hg10] at h; cases h
            rw [if_neg hg10] at h
            refine ev_iald rfl rfl hg10 ?_
            refine am_ev_go (pc' := 158) (L' := [some (.ref 96), some (.int x1), some (.int x2), some (.int x3), d4, d5, d6]) (st' := [.int (1 : Int32), .int (((6 : Int32) * (M 111 x3.toNatClampNeg)) + (M 102 (M 110 x3.toNatClampNeg).toNatClampNeg)), .ref 114]) (sh' := sh_A) (M' := M) 2 rfl ?_
            by_cases hg11 : (((6 : Int32) * (M 111 x3.toNatClampNeg)) + (M 102 (M 110 x3.toNatClampNeg).toNatClampNeg)) < 0 ∨ 96 ≤ (((6 : Int32) * (M 111 x3.toNatClampNeg)) + (M 102 (M 110 x3.toNatClampNeg).toNatClampNeg)).toNatClampNeg
            case pos => rw [if_pos hg11] at h; cases h
            rw [if_neg hg11] at h
            refine ev_bast rfl rfl hg11 ?_
            exact te_178_159 hk95 _ _ _ _ _ _ _ _ h
def fd_178_87 (k44 : Int32 → Int32 → Int32 → am_M → Option (Int32 × am_M)) (x1 : Int32) (x2 : Int32) (x3 : Int32) (M : am_M) : Option (Int32 × am_M) := k44 x1 x2 (x3 + (1 : Int32)) M
set_option maxRecDepth 50000 in
theorem te_178_87 {L : Nat} {xs : Nat → Int32} {k44 : Int32 → Int32 → Int32 → am_M → Option (Int32 × am_M)} (hk44 : ∀ (x1 : Int32) (x2 : Int32) (x3 : Int32) (M : am_M) (q : Int32 × am_M) (e4 e5 e6 : Option Value), k44 x1 x2 x3 M = some q → am_ev (tb_P L xs) 178 44 [some (.ref 96), some (.int x1), some (.int x2), some (.int x3), e4, e5, e6] [] sh_A M (some (.int q.1), sh_A, q.2)) (x1 : Int32) (x2 : Int32) (x3 : Int32) (M : am_M) (q : Int32 × am_M) (d4 d5 d6 : Option Value) (h : fd_178_87 k44 x1 x2 x3 M = some q) : am_ev (tb_P L xs) 178 87 [some (.ref 96), some (.int x1), some (.int x2), some (.int x3), d4, d5, d6] [] sh_A M (some (.int q.1), sh_A, q.2) := by
  unfold fd_178_87 at h
  refine am_ev_go (pc' := 44) (L' := [some (.ref 96), some (.int x1), some (.int x2), some (.int (x3 + (1 : Int32))), d4, d5, d6]) (st' := []) (sh' := sh_A) (M' := M) 2 rfl ?_
  exact hk44 _ _ _ _ _ _ _ _ h
def fd_178_44 (f : Nat) : Int32 → Int32 → Int32 → am_M → Option (Int32 × am_M) := Nat.rec (motive := fun _ => Int32 → Int32 → Int32 → am_M → Option (Int32 × am_M)) (fun _ _ _ _ => none) (fun _ k44 => fun x1 x2 x3 M => if (6 : Int32) ≤ x3 then (fd_178_95 1000 x1 x2 (0 : Int32) M) else (if (((6 : Int32) * x1) + x3) < 0 ∨ 24 ≤ (((6 : Int32) * x1) + x3).toNatClampNeg then none else if (M 101 (((6 : Int32) * x1) + x3).toNatClampNeg) = (-1 : Int32) then (fd_178_87 k44 x1 x2 x3 M) else (if (((6 : Int32) * x1) + x3) < 0 ∨ 24 ≤ (((6 : Int32) * x1) + x3).toNatClampNeg then none else if (((6 : Int32) * (M 101 (((6 : Int32) * x1) + x3).toNatClampNeg)) + x3) < 0 ∨ 96 ≤ (((6 : Int32) * (M 101 (((6 : Int32) * x1) + x3).toNatClampNeg)) + x3).toNatClampNeg then none else fd_178_87 k44 x1 x2 x3 (ds_w M 114 (((6 : Int32) * (M 101 (((6 : Int32) * x1) + x3).toNatClampNeg)) + x3).toNatClampNeg ((1 : Int32) &&& 1))))) f
set_option maxRecDepth 50000 in
theorem te_178_44 {L : Nat} {xs : Nat → Int32} : ∀ (f : Nat) (x1 : Int32) (x2 : Int32) (x3 : Int32) (M : am_M) (q : Int32 × am_M) (d4 d5 d6 : Option Value), fd_178_44 f x1 x2 x3 M = some q → am_ev (tb_P L xs) 178 44 [some (.ref 96), some (.int x1), some (.int x2), some (.int x3), d4, d5, d6] [] sh_A M (some (.int q.1), sh_A, q.2) := by
  intro f
  induction f with
  | zero => intro x1 x2 x3 M q d4 d5 d6 h; cases h
  | succ f hk44 =>
    intro x1 x2 x3 M q d4 d5 d6 h
    change (if (6 : Int32) ≤ x3 then (fd_178_95 1000 x1 x2 (0 : Int32) M) else (if (((6 : Int32) * x1) + x3) < 0 ∨ 24 ≤ (((6 : Int32) * x1) + x3).toNatClampNeg then none else if (M 101 (((6 : Int32) * x1) + x3).toNatClampNeg) = (-1 : Int32) then (fd_178_87 (fd_178_44 f) x1 x2 x3 M) else (if (((6 : Int32) * x1) + x3) < 0 ∨ 24 ≤ (((6 : Int32) * x1) + x3).toNatClampNeg then none else if (((6 : Int32) * (M 101 (((6 : Int32) * x1) + x3).toNatClampNeg)) + x3) < 0 ∨ 96 ≤ (((6 : Int32) * (M 101 (((6 : Int32) * x1) + x3).toNatClampNeg)) + x3).toNatClampNeg then none else fd_178_87 (fd_178_44 f) x1 x2 x3 (ds_w M 114 (((6 : Int32) * (M 101 (((6 : Int32) * x1) + x3).toNatClampNeg)) + x3).toNatClampNeg ((1 : Int32) &&& 1))))) = some q at h
    refine am_ev_go (pc' := (am_br .ge x3 (6 : Int32) 93 50)) (L' := [some (.ref 96), some (.int x1), some (.int x2), some (.int x3), d4, d5, d6]) (st' := []) (sh' := sh_A) (M' := M) 3 rfl ?_
    refine ev_ge (fun hc1 => ?_) (fun hc1 => ?_)
    · rw [if_pos hc1] at h
      refine am_ev_go (pc' := 95) (L' := [some (.ref 96), some (.int x1), some (.int x2), some (.int (0 : Int32)), d4, d5, d6]) (st' := []) (sh' := sh_A) (M' := M) 2 rfl ?_
      exact te_178_95 1000 _ _ _ _ _ _ _ _ h
    · rw [if_neg hc1] at h
      refine am_ev_go (pc' := 60) (L' := [some (.ref 96), some (.int x1), some (.int x2), some (.int x3), d4, d5, d6]) (st' := [.int (((6 : Int32) * x1) + x3), .ref 101]) (sh' := sh_A) (M' := M) 7 rfl ?_
      by_cases hg2 : (((6 : Int32) * x1) + x3) < 0 ∨ 24 ≤ (((6 : Int32) * x1) + x3).toNatClampNeg
      case pos => rw [if_pos hg2] at h; cases h
      rw [if_neg hg2] at h
      refine ev_iald rfl rfl hg2 ?_
      refine am_ev_go (pc' := (am_br .eq (M 101 (((6 : Int32) * x1) + x3).toNatClampNeg) (-1 : Int32) 87 65)) (L' := [some (.ref 96), some (.int x1), some (.int x2), some (.int x3), d4, d5, d6]) (st' := []) (sh' := sh_A) (M' := M) 2 rfl ?_
      refine ev_eq (fun hc3 => ?_) (fun hc3 => ?_)
      · rw [if_pos hc3] at h
        exact te_178_87 hk44 _ _ _ _ _ _ _ _ h
      · rw [if_neg hc3] at h
        refine am_ev_go (pc' := 81) (L' := [some (.ref 96), some (.int x1), some (.int x2), some (.int x3), d4, d5, d6]) (st' := [.int (((6 : Int32) * x1) + x3), .ref 101, .int (6 : Int32), .ref 114]) (sh' := sh_A) (M' := M) 10 rfl ?_
        by_cases hg4 : (((6 : Int32) * x1) + x3) < 0 ∨ 24 ≤ (((6 : Int32) * x1) + x3).toNatClampNeg
        case pos => rw [if_pos hg4] at h; cases h
        rw [if_neg hg4] at h
        refine ev_iald rfl rfl hg4 ?_
        refine am_ev_go (pc' := 86) (L' := [some (.ref 96), some (.int x1), some (.int x2), some (.int x3), d4, d5, d6]) (st' := [.int (1 : Int32), .int (((6 : Int32) * (M 101 (((6 : Int32) * x1) + x3).toNatClampNeg)) + x3), .ref 114]) (sh' := sh_A) (M' := M) 4 rfl ?_
        by_cases hg5 : (((6 : Int32) * (M 101 (((6 : Int32) * x1) + x3).toNatClampNeg)) + x3) < 0 ∨ 96 ≤ (((6 : Int32) * (M 101 (((6 : Int32) * x1) + x3).toNatClampNeg)) + x3).toNatClampNeg
        case pos => rw [if_pos hg5] at h; cases h
        rw [if_neg hg5] at h
        refine ev_bast rfl rfl hg5 ?_
        exact te_178_87 hk44 _ _ _ _ _ _ _ _ h
def fd_178_23 (f : Nat) : Int32 → Int32 → Int32 → am_M → Option (Int32 × am_M) := Nat.rec (motive := fun _ => Int32 → Int32 → Int32 → am_M → Option (Int32 × am_M)) (fun _ _ _ _ => none) (fun _ k23 => fun x1 x2 x3 M => if (96 : Int32) ≤ x3 then (fd_178_44 1000 x1 x2 (0 : Int32) M) else (if x3 < 0 ∨ 96 ≤ x3.toNatClampNeg then none else k23 x1 x2 (x3 + (1 : Int32)) (ds_w M 114 x3.toNatClampNeg ((0 : Int32) &&& 1)))) f
set_option maxRecDepth 50000 in
theorem te_178_23 {L : Nat} {xs : Nat → Int32} : ∀ (f : Nat) (x1 : Int32) (x2 : Int32) (x3 : Int32) (M : am_M) (q : Int32 × am_M) (d4 d5 d6 : Option Value), fd_178_23 f x1 x2 x3 M = some q → am_ev (tb_P L xs) 178 23 [some (.ref 96), some (.int x1), some (.int x2), some (.int x3), d4, d5, d6] [] sh_A M (some (.int q.1), sh_A, q.2) := by
  intro f
  induction f with
  | zero => intro x1 x2 x3 M q d4 d5 d6 h; cases h
  | succ f hk23 =>
    intro x1 x2 x3 M q d4 d5 d6 h
    change (if (96 : Int32) ≤ x3 then (fd_178_44 1000 x1 x2 (0 : Int32) M) else (if x3 < 0 ∨ 96 ≤ x3.toNatClampNeg then none else (fd_178_23 f) x1 x2 (x3 + (1 : Int32)) (ds_w M 114 x3.toNatClampNeg ((0 : Int32) &&& 1)))) = some q at h
    refine am_ev_go (pc' := (am_br .ge x3 (96 : Int32) 42 29)) (L' := [some (.ref 96), some (.int x1), some (.int x2), some (.int x3), d4, d5, d6]) (st' := []) (sh' := sh_A) (M' := M) 3 rfl ?_
    refine ev_ge (fun hc1 => ?_) (fun hc1 => ?_)
    · rw [if_pos hc1] at h
      refine am_ev_go (pc' := 44) (L' := [some (.ref 96), some (.int x1), some (.int x2), some (.int (0 : Int32)), d4, d5, d6]) (st' := []) (sh' := sh_A) (M' := M) 2 rfl ?_
      exact te_178_44 1000 _ _ _ _ _ _ _ _ h
    · rw [if_neg hc1] at h
      refine am_ev_go (pc' := 35) (L' := [some (.ref 96), some (.int x1), some (.int x2), some (.int x3), d4, d5, d6]) (st' := [.int (0 : Int32), .int x3, .ref 114]) (sh' := sh_A) (M' := M) 4 rfl ?_
      by_cases hg2 : x3 < 0 ∨ 96 ≤ x3.toNatClampNeg
      case pos => rw [if_pos hg2] at h; cases h
      rw [if_neg hg2] at h
      refine ev_bast rfl rfl hg2 ?_
      refine am_ev_go (pc' := 23) (L' := [some (.ref 96), some (.int x1), some (.int x2), some (.int (x3 + (1 : Int32))), d4, d5, d6]) (st' := []) (sh' := sh_A) (M' := (ds_w M 114 x3.toNatClampNeg ((0 : Int32) &&& 1))) 2 rfl ?_
      exact hk23 _ _ _ _ _ _ _ _ h
/-- CountedActorsModel.rights(II)I -/
def fd_178 (a1 : Int32) (a2 : Int32) (M : am_M) : Option (Int32 × am_M) := (fd_148 a1 (M 96 0) M).bind fun q1 => if q1.1 = (0 : Int32) then (some ((0 : Int32), q1.2)) else ((fd_173 a2 q1.2).bind fun q4 => if q4.1 = (0 : Int32) then (some ((0 : Int32), q4.2)) else (fd_178_23 1000 a1 a2 (0 : Int32) q4.2))
set_option maxRecDepth 50000 in
theorem te_178 {L : Nat} {xs : Nat → Int32} (a1 : Int32) (a2 : Int32) (M : am_M) (q : Int32 × am_M) (h : fd_178 a1 a2 M = some q) : am_ev (tb_P L xs) 178 0 [some (.ref 96), some (.int a1), some (.int a2), none, none, none, none] [] sh_A M (some (.int q.1), sh_A, q.2) := by
  unfold fd_178 at h
  refine am_ev_go (pc' := 5) (L' := [some (.ref 96), some (.int a1), some (.int a2), none, none, none, none]) (st' := [.int (M 96 0), .int a1]) (sh' := sh_A) (M' := M) 3 rfl ?_
  obtain ⟨q1, hq2, h⟩ := Option.bind_eq_some_iff.mp h
  refine am_ev_call (mj := 148) (as := [.int a1, .int (M 96 0)]) (rest := []) (rv := some (.int q1.1)) (sh' := sh_A) (M' := q1.2) rfl (te_148 _ _ _ _ hq2) ?_
  show am_ev _ 178 8 [some (.ref 96), some (.int a1), some (.int a2), none, none, none, none] [.int q1.1] sh_A q1.2 _
  refine am_ev_go (pc' := (am_br .eq q1.1 0 19 11)) (L' := [some (.ref 96), some (.int a1), some (.int a2), none, none, none, none]) (st' := []) (sh' := sh_A) (M' := q1.2) 1 rfl ?_
  refine ev_eq (fun hc3 => ?_) (fun hc3 => ?_)
  · rw [if_pos hc3] at h
    refine am_ev_go (pc' := 20) (L' := [some (.ref 96), some (.int a1), some (.int a2), none, none, none, none]) (st' := [.int (0 : Int32)]) (sh' := sh_A) (M' := q1.2) 1 rfl ?_
    cases h
    exact am_ev_ret rfl
  · rw [if_neg hc3] at h
    refine am_ev_go (pc' := 13) (L' := [some (.ref 96), some (.int a1), some (.int a2), none, none, none, none]) (st' := [.int a2, .ref 96]) (sh' := sh_A) (M' := q1.2) 2 rfl ?_
    obtain ⟨q4, hq5, h⟩ := Option.bind_eq_some_iff.mp h
    refine am_ev_call (mj := 173) (as := [.ref 96, .int a2]) (rest := []) (rv := some (.int q4.1)) (sh' := sh_A) (M' := q4.2) rfl (te_173 _ _ _ hq5) ?_
    show am_ev _ 178 16 [some (.ref 96), some (.int a1), some (.int a2), none, none, none, none] [.int q4.1] sh_A q4.2 _
    refine am_ev_go (pc' := (am_br .ne q4.1 0 21 19)) (L' := [some (.ref 96), some (.int a1), some (.int a2), none, none, none, none]) (st' := []) (sh' := sh_A) (M' := q4.2) 1 rfl ?_
    refine ev_ne (fun hc6 => ?_) (fun hc6 => ?_)
    · rw [if_neg hc6] at h
      refine am_ev_go (pc' := 23) (L' := [some (.ref 96), some (.int a1), some (.int a2), some (.int (0 : Int32)), none, none, none]) (st' := []) (sh' := sh_A) (M' := q4.2) 2 rfl ?_
      exact te_178_23 1000 _ _ _ _ _ _ _ _ h
    · rw [if_pos hc6] at h
      refine am_ev_go (pc' := 20) (L' := [some (.ref 96), some (.int a1), some (.int a2), none, none, none, none]) (st' := [.int (0 : Int32)]) (sh' := sh_A) (M' := q4.2) 1 rfl ?_
      cases h
      exact am_ev_ret rfl
/-- CountedActorsModel.shown(I)I -/
def fd_180 (a1 : Int32) (M : am_M) : Option (Int32 × am_M) := if a1 = (-1 : Int32) then (some ((M 96 25), M)) else ((fd_148 a1 (16 : Int32) M).bind fun q2 => if q2.1 = (0 : Int32) then (some ((0 : Int32), q2.2)) else (if (q2.2 96 25) ≤ a1 then (some ((0 : Int32), q2.2)) else (if a1 < 0 ∨ 16 ≤ a1.toNatClampNeg then none else some ((q2.2 116 a1.toNatClampNeg), q2.2))))
set_option maxRecDepth 50000 in
theorem te_180 {L : Nat} {xs : Nat → Int32} (a1 : Int32) (M : am_M) (q : Int32 × am_M) (h : fd_180 a1 M = some q) : am_ev (tb_P L xs) 180 0 [some (.ref 96), some (.int a1)] [] sh_A M (some (.int q.1), sh_A, q.2) := by
  unfold fd_180 at h
  refine am_ev_go (pc' := (am_br .ne a1 (-1 : Int32) 10 5)) (L' := [some (.ref 96), some (.int a1)]) (st' := []) (sh' := sh_A) (M' := M) 3 rfl ?_
  refine ev_ne (fun hc1 => ?_) (fun hc1 => ?_)
  · rw [if_neg hc1] at h
    refine am_ev_go (pc' := 13) (L' := [some (.ref 96), some (.int a1)]) (st' := [.int (16 : Int32), .int a1]) (sh' := sh_A) (M' := M) 2 rfl ?_
    obtain ⟨q2, hq3, h⟩ := Option.bind_eq_some_iff.mp h
    refine am_ev_call (mj := 148) (as := [.int a1, .int (16 : Int32)]) (rest := []) (rv := some (.int q2.1)) (sh' := sh_A) (M' := q2.2) rfl (te_148 _ _ _ _ hq3) ?_
    show am_ev _ 180 16 [some (.ref 96), some (.int a1)] [.int q2.1] sh_A q2.2 _
    refine am_ev_go (pc' := (am_br .eq q2.1 0 36 19)) (L' := [some (.ref 96), some (.int a1)]) (st' := []) (sh' := sh_A) (M' := q2.2) 1 rfl ?_
    refine ev_eq (fun hc4 => ?_) (fun hc4 => ?_)
    · rw [if_pos hc4] at h
      refine am_ev_go (pc' := 37) (L' := [some (.ref 96), some (.int a1)]) (st' := [.int (0 : Int32)]) (sh' := sh_A) (M' := q2.2) 1 rfl ?_
      cases h
      exact am_ev_ret rfl
    · rw [if_neg hc4] at h
      refine am_ev_go (pc' := (am_br .ge a1 (q2.2 96 25) 36 27)) (L' := [some (.ref 96), some (.int a1)]) (st' := []) (sh' := sh_A) (M' := q2.2) 4 rfl ?_
      refine ev_ge (fun hc5 => ?_) (fun hc5 => ?_)
      · rw [if_pos hc5] at h
        refine am_ev_go (pc' := 37) (L' := [some (.ref 96), some (.int a1)]) (st' := [.int (0 : Int32)]) (sh' := sh_A) (M' := q2.2) 1 rfl ?_
        cases h
        exact am_ev_ret rfl
      · rw [if_neg hc5] at h
        refine am_ev_go (pc' := 32) (L' := [some (.ref 96), some (.int a1)]) (st' := [.int a1, .ref 116]) (sh' := sh_A) (M' := q2.2) 3 rfl ?_
        by_cases hg6 : a1 < 0 ∨ 16 ≤ a1.toNatClampNeg
        case pos => rw [if_pos hg6] at h; cases h
        rw [if_neg hg6] at h
        refine ev_iald rfl rfl hg6 ?_
        refine am_ev_go (pc' := 37) (L' := [some (.ref 96), some (.int a1)]) (st' := [.int (q2.2 116 a1.toNatClampNeg)]) (sh' := sh_A) (M' := q2.2) 1 rfl ?_
        cases h
        exact am_ev_ret rfl
  · rw [if_pos hc1] at h
    refine am_ev_go (pc' := 9) (L' := [some (.ref 96), some (.int a1)]) (st' := [.int (M 96 25)]) (sh' := sh_A) (M' := M) 2 rfl ?_
    cases h
    exact am_ev_ret rfl
def fd_181_107 (k79 : Int32 → Int32 → am_M → Option (Int32 × am_M)) (x1 : Int32) (x2 : Int32) (M : am_M) : Option (Int32 × am_M) := k79 x1 (x2 + (1 : Int32)) M
set_option maxRecDepth 50000 in
theorem te_181_107 {L : Nat} {xs : Nat → Int32} {k79 : Int32 → Int32 → am_M → Option (Int32 × am_M)} (hk79 : ∀ (x1 : Int32) (x2 : Int32) (M : am_M) (q : Int32 × am_M), k79 x1 x2 M = some q → am_ev (tb_P L xs) 181 79 [some (.ref 96), some (.int x1), some (.int x2)] [] sh_A M (some (.int q.1), sh_A, q.2)) (x1 : Int32) (x2 : Int32) (M : am_M) (q : Int32 × am_M) (h : fd_181_107 k79 x1 x2 M = some q) : am_ev (tb_P L xs) 181 107 [some (.ref 96), some (.int x1), some (.int x2)] [] sh_A M (some (.int q.1), sh_A, q.2) := by
  unfold fd_181_107 at h
  refine am_ev_go (pc' := 79) (L' := [some (.ref 96), some (.int x1), some (.int (x2 + (1 : Int32)))]) (st' := []) (sh' := sh_A) (M' := M) 2 rfl ?_
  exact hk79 _ _ _ _ h
def fd_181_79 (f : Nat) : Int32 → Int32 → am_M → Option (Int32 × am_M) := Nat.rec (motive := fun _ => Int32 → Int32 → am_M → Option (Int32 × am_M)) (fun _ _ _ => none) (fun _ k79 => fun x1 x2 M => if (16 : Int32) ≤ x2 then (some (x1, M)) else (if x2 < 0 ∨ 16 ≤ x2.toNatClampNeg then none else if (M 97 x2.toNatClampNeg) = (-1 : Int32) then (fd_181_107 k79 x1 x2 M) else (if x2 < 0 ∨ 16 ≤ x2.toNatClampNeg then none else if (M 112 x2.toNatClampNeg) = (0 : Int32) then (fd_181_107 k79 (x1 + (1 : Int32)) x2 M) else (fd_181_107 k79 x1 x2 M)))) f
set_option maxRecDepth 50000 in
theorem te_181_79 {L : Nat} {xs : Nat → Int32} : ∀ (f : Nat) (x1 : Int32) (x2 : Int32) (M : am_M) (q : Int32 × am_M), fd_181_79 f x1 x2 M = some q → am_ev (tb_P L xs) 181 79 [some (.ref 96), some (.int x1), some (.int x2)] [] sh_A M (some (.int q.1), sh_A, q.2) := by
  intro f
  induction f with
  | zero => intro x1 x2 M q h; cases h
  | succ f hk79 =>
    intro x1 x2 M q h
    change (if (16 : Int32) ≤ x2 then (some (x1, M)) else (if x2 < 0 ∨ 16 ≤ x2.toNatClampNeg then none else if (M 97 x2.toNatClampNeg) = (-1 : Int32) then (fd_181_107 (fd_181_79 f) x1 x2 M) else (if x2 < 0 ∨ 16 ≤ x2.toNatClampNeg then none else if (M 112 x2.toNatClampNeg) = (0 : Int32) then (fd_181_107 (fd_181_79 f) (x1 + (1 : Int32)) x2 M) else (fd_181_107 (fd_181_79 f) x1 x2 M)))) = some q at h
    refine am_ev_go (pc' := (am_br .ge x2 (16 : Int32) 113 85)) (L' := [some (.ref 96), some (.int x1), some (.int x2)]) (st' := []) (sh' := sh_A) (M' := M) 3 rfl ?_
    refine ev_ge (fun hc1 => ?_) (fun hc1 => ?_)
    · rw [if_pos hc1] at h
      refine am_ev_go (pc' := 114) (L' := [some (.ref 96), some (.int x1), some (.int x2)]) (st' := [.int x1]) (sh' := sh_A) (M' := M) 1 rfl ?_
      cases h
      exact am_ev_ret rfl
    · rw [if_neg hc1] at h
      refine am_ev_go (pc' := 90) (L' := [some (.ref 96), some (.int x1), some (.int x2)]) (st' := [.int x2, .ref 97]) (sh' := sh_A) (M' := M) 3 rfl ?_
      by_cases hg2 : x2 < 0 ∨ 16 ≤ x2.toNatClampNeg
      case pos => rw [if_pos hg2] at h; cases h
      rw [if_neg hg2] at h
      refine ev_iald rfl rfl hg2 ?_
      refine am_ev_go (pc' := (am_br .eq (M 97 x2.toNatClampNeg) (-1 : Int32) 107 95)) (L' := [some (.ref 96), some (.int x1), some (.int x2)]) (st' := []) (sh' := sh_A) (M' := M) 2 rfl ?_
      refine ev_eq (fun hc3 => ?_) (fun hc3 => ?_)
      · rw [if_pos hc3] at h
        exact te_181_107 hk79 _ _ _ _ h
      · rw [if_neg hc3] at h
        refine am_ev_go (pc' := 100) (L' := [some (.ref 96), some (.int x1), some (.int x2)]) (st' := [.int x2, .ref 112]) (sh' := sh_A) (M' := M) 3 rfl ?_
        by_cases hg4 : x2 < 0 ∨ 16 ≤ x2.toNatClampNeg
        case pos => rw [if_pos hg4] at h; cases h
        rw [if_neg hg4] at h
        refine ev_bald rfl rfl hg4 ?_
        refine am_ev_go (pc' := (am_br .ne (M 112 x2.toNatClampNeg) 0 107 104)) (L' := [some (.ref 96), some (.int x1), some (.int x2)]) (st' := []) (sh' := sh_A) (M' := M) 1 rfl ?_
        refine ev_ne (fun hc5 => ?_) (fun hc5 => ?_)
        · rw [if_neg hc5] at h
          exact te_181_107 hk79 _ _ _ _ h
        · rw [if_pos hc5] at h
          refine am_ev_go (pc' := 107) (L' := [some (.ref 96), some (.int (x1 + (1 : Int32))), some (.int x2)]) (st' := []) (sh' := sh_A) (M' := M) 1 rfl ?_
          exact te_181_107 hk79 _ _ _ _ h
def fd_181_65 (k27 : Int32 → am_M → Option (Int32 × am_M)) (x1 : Int32) (M : am_M) : Option (Int32 × am_M) := k27 (x1 + (1 : Int32)) M
set_option maxRecDepth 50000 in
theorem te_181_65 {L : Nat} {xs : Nat → Int32} {k27 : Int32 → am_M → Option (Int32 × am_M)} (hk27 : ∀ (x1 : Int32) (M : am_M) (q : Int32 × am_M) (e2 : Option Value), k27 x1 M = some q → am_ev (tb_P L xs) 181 27 [some (.ref 96), some (.int x1), e2] [] sh_A M (some (.int q.1), sh_A, q.2)) (x1 : Int32) (M : am_M) (q : Int32 × am_M) (d2 : Option Value) (h : fd_181_65 k27 x1 M = some q) : am_ev (tb_P L xs) 181 65 [some (.ref 96), some (.int x1), d2] [] sh_A M (some (.int q.1), sh_A, q.2) := by
  unfold fd_181_65 at h
  refine am_ev_go (pc' := 27) (L' := [some (.ref 96), some (.int (x1 + (1 : Int32))), d2]) (st' := []) (sh' := sh_A) (M' := M) 2 rfl ?_
  exact hk27 _ _ _ _ h
def fd_181_27 (f : Nat) : Int32 → am_M → Option (Int32 × am_M) := Nat.rec (motive := fun _ => Int32 → am_M → Option (Int32 × am_M)) (fun _ _ => none) (fun _ k27 => fun x1 M => if (M 96 15) ≤ x1 then ((fd_160 M).bind fun q2 => fd_181_79 1000 (0 : Int32) (0 : Int32) q2) else (if x1 < 0 ∨ 20 ≤ x1.toNatClampNeg then none else if (M 108 x1.toNatClampNeg) = (0 : Int32) then (if x1 < 0 ∨ 20 ≤ x1.toNatClampNeg then none else if x1 < 0 ∨ 20 ≤ x1.toNatClampNeg then none else if (M 110 x1.toNatClampNeg) < 0 ∨ 6 ≤ (M 110 x1.toNatClampNeg).toNatClampNeg then none else (fd_159 (M 111 x1.toNatClampNeg) (M 102 (M 110 x1.toNatClampNeg).toNatClampNeg) M).bind fun q9 => fd_181_65 k27 x1 q9) else (fd_181_65 k27 x1 M))) f
set_option maxRecDepth 50000 in
theorem te_181_27 {L : Nat} {xs : Nat → Int32} : ∀ (f : Nat) (x1 : Int32) (M : am_M) (q : Int32 × am_M) (d2 : Option Value), fd_181_27 f x1 M = some q → am_ev (tb_P L xs) 181 27 [some (.ref 96), some (.int x1), d2] [] sh_A M (some (.int q.1), sh_A, q.2) := by
  intro f
  induction f with
  | zero => intro x1 M q d2 h; cases h
  | succ f hk27 =>
    intro x1 M q d2 h
    change (if (M 96 15) ≤ x1 then ((fd_160 M).bind fun q2 => fd_181_79 1000 (0 : Int32) (0 : Int32) q2) else (if x1 < 0 ∨ 20 ≤ x1.toNatClampNeg then none else if (M 108 x1.toNatClampNeg) = (0 : Int32) then (if x1 < 0 ∨ 20 ≤ x1.toNatClampNeg then none else if x1 < 0 ∨ 20 ≤ x1.toNatClampNeg then none else if (M 110 x1.toNatClampNeg) < 0 ∨ 6 ≤ (M 110 x1.toNatClampNeg).toNatClampNeg then none else (fd_159 (M 111 x1.toNatClampNeg) (M 102 (M 110 x1.toNatClampNeg).toNatClampNeg) M).bind fun q9 => fd_181_65 (fd_181_27 f) x1 q9) else (fd_181_65 (fd_181_27 f) x1 M))) = some q at h
    refine am_ev_go (pc' := (am_br .ge x1 (M 96 15) 71 35)) (L' := [some (.ref 96), some (.int x1), d2]) (st' := []) (sh' := sh_A) (M' := M) 4 rfl ?_
    refine ev_ge (fun hc1 => ?_) (fun hc1 => ?_)
    · rw [if_pos hc1] at h
      refine am_ev_go (pc' := 72) (L' := [some (.ref 96), some (.int x1), d2]) (st' := [.ref 96]) (sh' := sh_A) (M' := M) 1 rfl ?_
      obtain ⟨q2, hq3, h⟩ := Option.bind_eq_some_iff.mp h
      refine am_ev_call (mj := 160) (as := [.ref 96]) (rest := []) (rv := none) (sh' := sh_A) (M' := q2) rfl (te_160 _ _ hq3) ?_
      show am_ev _ 181 75 [some (.ref 96), some (.int x1), d2] [] sh_A q2 _
      refine am_ev_go (pc' := 79) (L' := [some (.ref 96), some (.int (0 : Int32)), some (.int (0 : Int32))]) (st' := []) (sh' := sh_A) (M' := q2) 4 rfl ?_
      exact te_181_79 1000 _ _ _ _ h
    · rw [if_neg hc1] at h
      refine am_ev_go (pc' := 40) (L' := [some (.ref 96), some (.int x1), d2]) (st' := [.int x1, .ref 108]) (sh' := sh_A) (M' := M) 3 rfl ?_
      by_cases hg4 : x1 < 0 ∨ 20 ≤ x1.toNatClampNeg
      case pos => rw [if_pos hg4] at h; cases h
      rw [if_neg hg4] at h
      refine ev_iald rfl rfl hg4 ?_
      refine am_ev_go (pc' := (am_br .ne (M 108 x1.toNatClampNeg) 0 65 44)) (L' := [some (.ref 96), some (.int x1), d2]) (st' := []) (sh' := sh_A) (M' := M) 1 rfl ?_
      refine ev_ne (fun hc5 => ?_) (fun hc5 => ?_)
      · rw [if_neg hc5] at h
        exact te_181_65 hk27 _ _ _ _ h
      · rw [if_pos hc5] at h
        refine am_ev_go (pc' := 50) (L' := [some (.ref 96), some (.int x1), d2]) (st' := [.int x1, .ref 111, .ref 96]) (sh' := sh_A) (M' := M) 4 rfl ?_
        by_cases hg6 : x1 < 0 ∨ 20 ≤ x1.toNatClampNeg
        case pos => rw [if_pos hg6] at h; cases h
        rw [if_neg hg6] at h
        refine ev_iald rfl rfl hg6 ?_
        refine am_ev_go (pc' := 60) (L' := [some (.ref 96), some (.int x1), d2]) (st' := [.int x1, .ref 110, .ref 102, .int (M 111 x1.toNatClampNeg), .ref 96]) (sh' := sh_A) (M' := M) 5 rfl ?_
        by_cases hg7 : x1 < 0 ∨ 20 ≤ x1.toNatClampNeg
        case pos => rw [if_pos hg7] at h; cases h
        rw [if_neg hg7] at h
        refine ev_iald rfl rfl hg7 ?_
        by_cases hg8 : (M 110 x1.toNatClampNeg) < 0 ∨ 6 ≤ (M 110 x1.toNatClampNeg).toNatClampNeg
        case pos => rw [if_pos hg8] at h; cases h
        rw [if_neg hg8] at h
        refine ev_iald rfl rfl hg8 ?_
        obtain ⟨q9, hq10, h⟩ := Option.bind_eq_some_iff.mp h
        refine am_ev_call (mj := 159) (as := [.ref 96, .int (M 111 x1.toNatClampNeg), .int (M 102 (M 110 x1.toNatClampNeg).toNatClampNeg)]) (rest := []) (rv := none) (sh' := sh_A) (M' := q9) rfl (te_159 _ _ _ _ hq10) ?_
        show am_ev _ 181 65 [some (.ref 96), some (.int x1), d2] [] sh_A q9 _
        exact te_181_65 hk27 _ _ _ _ h
def fd_181_6 (f : Nat) : Int32 → am_M → Option (Int32 × am_M) := Nat.rec (motive := fun _ => Int32 → am_M → Option (Int32 × am_M)) (fun _ _ => none) (fun _ k6 => fun x1 M => if (M 96 0) ≤ x1 then (fd_181_27 1000 (0 : Int32) M) else ((fd_169 x1 M).bind fun q2 => k6 (x1 + (1 : Int32)) q2)) f
set_option maxRecDepth 50000 in
theorem te_181_6 {L : Nat} {xs : Nat → Int32} : ∀ (f : Nat) (x1 : Int32) (M : am_M) (q : Int32 × am_M) (d2 : Option Value), fd_181_6 f x1 M = some q → am_ev (tb_P L xs) 181 6 [some (.ref 96), some (.int x1), d2] [] sh_A M (some (.int q.1), sh_A, q.2) := by
  intro f
  induction f with
  | zero => intro x1 M q d2 h; cases h
  | succ f hk6 =>
    intro x1 M q d2 h
    change (if (M 96 0) ≤ x1 then (fd_181_27 1000 (0 : Int32) M) else ((fd_169 x1 M).bind fun q2 => (fd_181_6 f) (x1 + (1 : Int32)) q2)) = some q at h
    refine am_ev_go (pc' := (am_br .ge x1 (M 96 0) 25 14)) (L' := [some (.ref 96), some (.int x1), d2]) (st' := []) (sh' := sh_A) (M' := M) 4 rfl ?_
    refine ev_ge (fun hc1 => ?_) (fun hc1 => ?_)
    · rw [if_pos hc1] at h
      refine am_ev_go (pc' := 27) (L' := [some (.ref 96), some (.int (0 : Int32)), d2]) (st' := []) (sh' := sh_A) (M' := M) 2 rfl ?_
      exact te_181_27 1000 _ _ _ _ h
    · rw [if_neg hc1] at h
      refine am_ev_go (pc' := 16) (L' := [some (.ref 96), some (.int x1), d2]) (st' := [.int x1, .ref 96]) (sh' := sh_A) (M' := M) 2 rfl ?_
      obtain ⟨q2, hq3, h⟩ := Option.bind_eq_some_iff.mp h
      refine am_ev_call (mj := 169) (as := [.ref 96, .int x1]) (rest := []) (rv := none) (sh' := sh_A) (M' := q2) rfl (te_169 _ _ _ hq3) ?_
      show am_ev _ 181 19 [some (.ref 96), some (.int x1), d2] [] sh_A q2 _
      refine am_ev_go (pc' := 6) (L' := [some (.ref 96), some (.int (x1 + (1 : Int32))), d2]) (st' := []) (sh' := sh_A) (M' := q2) 2 rfl ?_
      exact hk6 _ _ _ _ h
/-- CountedActorsModel.garbage()I -/
def fd_181 (M : am_M) : Option (Int32 × am_M) := (fd_158 M).bind fun q1 => fd_181_6 1000 (0 : Int32) q1
set_option maxRecDepth 50000 in
theorem te_181 {L : Nat} {xs : Nat → Int32} (M : am_M) (q : Int32 × am_M) (h : fd_181  M = some q) : am_ev (tb_P L xs) 181 0 [some (.ref 96), none, none] [] sh_A M (some (.int q.1), sh_A, q.2) := by
  unfold fd_181 at h
  refine am_ev_go (pc' := 1) (L' := [some (.ref 96), none, none]) (st' := [.ref 96]) (sh' := sh_A) (M' := M) 1 rfl ?_
  obtain ⟨q1, hq2, h⟩ := Option.bind_eq_some_iff.mp h
  refine am_ev_call (mj := 158) (as := [.ref 96]) (rest := []) (rv := none) (sh' := sh_A) (M' := q1) rfl (te_158 _ _ hq2) ?_
  show am_ev _ 181 4 [some (.ref 96), none, none] [] sh_A q1 _
  refine am_ev_go (pc' := 6) (L' := [some (.ref 96), some (.int (0 : Int32)), none]) (st' := []) (sh' := sh_A) (M' := q1) 2 rfl ?_
  exact te_181_6 1000 _ _ _ _ h
/-- CountedActorsModel.lost()I -/
def fd_182 (M : am_M) : Option (Int32 × am_M) := some ((M 96 24), M)
set_option maxRecDepth 50000 in
theorem te_182 {L : Nat} {xs : Nat → Int32} (M : am_M) (q : Int32 × am_M) (h : fd_182  M = some q) : am_ev (tb_P L xs) 182 0 [some (.ref 96)] [] sh_A M (some (.int q.1), sh_A, q.2) := by
  unfold fd_182 at h
  refine am_ev_go (pc' := 4) (L' := [some (.ref 96)]) (st' := [.int (M 96 24)]) (sh' := sh_A) (M' := M) 2 rfl ?_
  cases h
  exact am_ev_ret rfl
