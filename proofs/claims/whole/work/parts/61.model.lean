/-! The reference's constructor from pc 165 on, as a function (printed by decomp.py model) -/
def fd_130_232 (f : Nat) : Int32 → am_M → Option (am_M) := Nat.rec (motive := fun _ => Int32 → am_M → Option (am_M)) (fun _ _ => none) (fun _ k232 => fun x2 M => if (24 : Int32) ≤ x2 then (some M) else (if x2 < 0 ∨ 24 ≤ x2.toNatClampNeg then none else k232 (x2 + (1 : Int32)) (ds_w M 101 x2.toNatClampNeg (-1 : Int32)))) f
set_option maxRecDepth 50000 in
theorem te_130_232 {L : Nat} {xs : Nat → Int32} : ∀ (f : Nat) (x2 : Int32) (M : am_M) (q : am_M) (d1 : Option Value), fd_130_232 f x2 M = some q → am_ev (tb_P L xs) 130 232 [some (.ref 96), d1, some (.int x2)] [] sh_A M (none, sh_A, q) := by
  intro f
  induction f with
  | zero => intro x2 M q d1 h; cases h
  | succ f hk232 =>
    intro x2 M q d1 h
    change (if (24 : Int32) ≤ x2 then (some M) else (if x2 < 0 ∨ 24 ≤ x2.toNatClampNeg then none else (fd_130_232 f) (x2 + (1 : Int32)) (ds_w M 101 x2.toNatClampNeg (-1 : Int32)))) = some q at h
    refine am_ev_go (pc' := (am_br .ge x2 (24 : Int32) 251 238)) (L' := [some (.ref 96), d1, some (.int x2)]) (st' := []) (sh' := sh_A) (M' := M) 3 rfl ?_
    refine ev_ge (fun hc1 => ?_) (fun hc1 => ?_)
    · rw [if_pos hc1] at h
      cases h
      exact am_ev_ret rfl
    · rw [if_neg hc1] at h
      refine am_ev_go (pc' := 244) (L' := [some (.ref 96), d1, some (.int x2)]) (st' := [.int (-1 : Int32), .int x2, .ref 101]) (sh' := sh_A) (M' := M) 4 rfl ?_
      by_cases hg2 : x2 < 0 ∨ 24 ≤ x2.toNatClampNeg
      case pos => rw [if_pos hg2] at h; cases h
      rw [if_neg hg2] at h
      refine ev_iast rfl rfl hg2 ?_
      refine am_ev_go (pc' := 232) (L' := [some (.ref 96), d1, some (.int (x2 + (1 : Int32)))]) (st' := []) (sh' := sh_A) (M' := (ds_w M 101 x2.toNatClampNeg (-1 : Int32))) 2 rfl ?_
      exact hk232 _ _ _ _ h
def fd_130_211 (f : Nat) : Int32 → am_M → Option (am_M) := Nat.rec (motive := fun _ => Int32 → am_M → Option (am_M)) (fun _ _ => none) (fun _ k211 => fun x2 M => if (96 : Int32) ≤ x2 then (fd_130_232 1000 (0 : Int32) M) else (if x2 < 0 ∨ 96 ≤ x2.toNatClampNeg then none else k211 (x2 + (1 : Int32)) (ds_w M 99 x2.toNatClampNeg (-1 : Int32)))) f
set_option maxRecDepth 50000 in
theorem te_130_211 {L : Nat} {xs : Nat → Int32} : ∀ (f : Nat) (x2 : Int32) (M : am_M) (q : am_M) (d1 : Option Value), fd_130_211 f x2 M = some q → am_ev (tb_P L xs) 130 211 [some (.ref 96), d1, some (.int x2)] [] sh_A M (none, sh_A, q) := by
  intro f
  induction f with
  | zero => intro x2 M q d1 h; cases h
  | succ f hk211 =>
    intro x2 M q d1 h
    change (if (96 : Int32) ≤ x2 then (fd_130_232 1000 (0 : Int32) M) else (if x2 < 0 ∨ 96 ≤ x2.toNatClampNeg then none else (fd_130_211 f) (x2 + (1 : Int32)) (ds_w M 99 x2.toNatClampNeg (-1 : Int32)))) = some q at h
    refine am_ev_go (pc' := (am_br .ge x2 (96 : Int32) 230 217)) (L' := [some (.ref 96), d1, some (.int x2)]) (st' := []) (sh' := sh_A) (M' := M) 3 rfl ?_
    refine ev_ge (fun hc1 => ?_) (fun hc1 => ?_)
    · rw [if_pos hc1] at h
      refine am_ev_go (pc' := 232) (L' := [some (.ref 96), d1, some (.int (0 : Int32))]) (st' := []) (sh' := sh_A) (M' := M) 2 rfl ?_
      exact te_130_232 1000 _ _ _ _ h
    · rw [if_neg hc1] at h
      refine am_ev_go (pc' := 223) (L' := [some (.ref 96), d1, some (.int x2)]) (st' := [.int (-1 : Int32), .int x2, .ref 99]) (sh' := sh_A) (M' := M) 4 rfl ?_
      by_cases hg2 : x2 < 0 ∨ 96 ≤ x2.toNatClampNeg
      case pos => rw [if_pos hg2] at h; cases h
      rw [if_neg hg2] at h
      refine ev_iast rfl rfl hg2 ?_
      refine am_ev_go (pc' := 211) (L' := [some (.ref 96), d1, some (.int (x2 + (1 : Int32)))]) (st' := []) (sh' := sh_A) (M' := (ds_w M 99 x2.toNatClampNeg (-1 : Int32))) 2 rfl ?_
      exact hk211 _ _ _ _ h
def fd_130_190 (f : Nat) : Int32 → am_M → Option (am_M) := Nat.rec (motive := fun _ => Int32 → am_M → Option (am_M)) (fun _ _ => none) (fun _ k190 => fun x2 M => if (16 : Int32) ≤ x2 then (fd_130_211 1000 (0 : Int32) M) else (if x2 < 0 ∨ 16 ≤ x2.toNatClampNeg then none else k190 (x2 + (1 : Int32)) (ds_w M 97 x2.toNatClampNeg (-1 : Int32)))) f
set_option maxRecDepth 50000 in
theorem te_130_190 {L : Nat} {xs : Nat → Int32} : ∀ (f : Nat) (x2 : Int32) (M : am_M) (q : am_M) (d1 : Option Value), fd_130_190 f x2 M = some q → am_ev (tb_P L xs) 130 190 [some (.ref 96), d1, some (.int x2)] [] sh_A M (none, sh_A, q) := by
  intro f
  induction f with
  | zero => intro x2 M q d1 h; cases h
  | succ f hk190 =>
    intro x2 M q d1 h
    change (if (16 : Int32) ≤ x2 then (fd_130_211 1000 (0 : Int32) M) else (if x2 < 0 ∨ 16 ≤ x2.toNatClampNeg then none else (fd_130_190 f) (x2 + (1 : Int32)) (ds_w M 97 x2.toNatClampNeg (-1 : Int32)))) = some q at h
    refine am_ev_go (pc' := (am_br .ge x2 (16 : Int32) 209 196)) (L' := [some (.ref 96), d1, some (.int x2)]) (st' := []) (sh' := sh_A) (M' := M) 3 rfl ?_
    refine ev_ge (fun hc1 => ?_) (fun hc1 => ?_)
    · rw [if_pos hc1] at h
      refine am_ev_go (pc' := 211) (L' := [some (.ref 96), d1, some (.int (0 : Int32))]) (st' := []) (sh' := sh_A) (M' := M) 2 rfl ?_
      exact te_130_211 1000 _ _ _ _ h
    · rw [if_neg hc1] at h
      refine am_ev_go (pc' := 202) (L' := [some (.ref 96), d1, some (.int x2)]) (st' := [.int (-1 : Int32), .int x2, .ref 97]) (sh' := sh_A) (M' := M) 4 rfl ?_
      by_cases hg2 : x2 < 0 ∨ 16 ≤ x2.toNatClampNeg
      case pos => rw [if_pos hg2] at h; cases h
      rw [if_neg hg2] at h
      refine ev_iast rfl rfl hg2 ?_
      refine am_ev_go (pc' := 190) (L' := [some (.ref 96), d1, some (.int (x2 + (1 : Int32)))]) (st' := []) (sh' := sh_A) (M' := (ds_w M 97 x2.toNatClampNeg (-1 : Int32))) 2 rfl ?_
      exact hk190 _ _ _ _ h
def fd_130_185 (y1 : Int32) (M : am_M) : Option (am_M) := fd_130_190 1000 (0 : Int32) (ds_w M 96 0 y1)
set_option maxRecDepth 50000 in
theorem te_130_185 {L : Nat} {xs : Nat → Int32} (y1 : Int32) (M : am_M) (q : am_M) (d1 d2 : Option Value) (h : fd_130_185 y1 M = some q) : am_ev (tb_P L xs) 130 185 [some (.ref 96), d1, d2] [.int y1, .ref 96] sh_A M (none, sh_A, q) := by
  unfold fd_130_185 at h
  refine am_ev_go (pc' := 190) (L' := [some (.ref 96), d1, some (.int (0 : Int32))]) (st' := []) (sh' := sh_A) (M' := (ds_w M 96 0 y1)) 3 rfl ?_
  exact te_130_190 1000 _ _ _ _ h
/-- CountedActorsModel.<init>(I)V -/
def fd_130 (a1 : Int32) (M : am_M) : Option (am_M) := if (1 : Int32) ≤ a1 then (if a1 ≤ (4 : Int32) then (fd_130_185 a1 M) else (fd_130_185 (4 : Int32) M)) else (fd_130_185 (1 : Int32) M)
set_option maxRecDepth 50000 in
theorem te_130 {L : Nat} {xs : Nat → Int32} (a1 : Int32) (M : am_M) (q : am_M) (h : fd_130 a1 M = some q) : am_ev (tb_P L xs) 130 165 [some (.ref 96), some (.int a1), none] [] sh_A M (none, sh_A, q) := by
  unfold fd_130 at h
  refine am_ev_go (pc' := (am_br .ge a1 (1 : Int32) 175 171)) (L' := [some (.ref 96), some (.int a1), none]) (st' := [.ref 96]) (sh' := sh_A) (M' := M) 4 rfl ?_
  refine ev_ge (fun hc1 => ?_) (fun hc1 => ?_)
  · rw [if_pos hc1] at h
    refine am_ev_go (pc' := (am_br .le a1 (4 : Int32) 184 180)) (L' := [some (.ref 96), some (.int a1), none]) (st' := [.ref 96]) (sh' := sh_A) (M' := M) 3 rfl ?_
    refine ev_le (fun hc2 => ?_) (fun hc2 => ?_)
    · rw [if_pos hc2] at h
      refine am_ev_go (pc' := 185) (L' := [some (.ref 96), some (.int a1), none]) (st' := [.int a1, .ref 96]) (sh' := sh_A) (M' := M) 1 rfl ?_
      exact te_130_185 _ _ _ _ _ h
    · rw [if_neg hc2] at h
      refine am_ev_go (pc' := 185) (L' := [some (.ref 96), some (.int a1), none]) (st' := [.int (4 : Int32), .ref 96]) (sh' := sh_A) (M' := M) 2 rfl ?_
      exact te_130_185 _ _ _ _ _ h
  · rw [if_neg hc1] at h
    refine am_ev_go (pc' := 185) (L' := [some (.ref 96), some (.int a1), none]) (st' := [.int (1 : Int32), .ref 96]) (sh' := sh_A) (M' := M) 2 rfl ?_
    exact te_130_185 _ _ _ _ _ h
