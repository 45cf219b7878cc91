/-- java.util.Arrays.fill of an array a of n ints -/
def fd_7 (a n : Nat) (v : Int32) (M : am_M) : Option am_M := some (am_set M a (fun i => if i < n then v else M a i))
theorem te_7_5 {sh : List am_C} {L : Nat} {xs : Nat → Int32} {a n : Nat} {g : Nat → Option Nat} {v : Int32} {M : am_M} (hsh : am_nth sh a = some (.inr (0, n, g))) (hn : n < 100000) : ∀ (k i : Nat), i + k = n → am_ev (tb_P L xs) 7 5 [some (.ref a), some (.int v), some (.int (nI i)), some (.int (nI n))] [] sh (am_set M a (fun j => if j < i then v else M a j)) (none, sh, am_set M a (fun j => if j < n then v else M a j))
  | 0, i, h => by
    obtain rfl : i = n := by omega
    refine am_ev_go (pc' := (am_br .ge (nI i) (nI i) 20 10)) (L' := [some (.ref a), some (.int v), some (.int (nI i)), some (.int (nI i))]) (st' := []) (sh' := sh) (M' := am_set M a (fun j => if j < i then v else M a j)) 3 rfl ?_
    refine ev_ge (fun _ => am_ev_ret rfl) (fun q => absurd (nI_le (Nat.le_refl i) (by omega)) q)
  | k + 1, i, h => by
    refine am_ev_go (pc' := (am_br .ge (nI i) (nI n) 20 10)) (L' := [some (.ref a), some (.int v), some (.int (nI i)), some (.int (nI n))]) (st' := []) (sh' := sh) (M' := am_set M a (fun j => if j < i then v else M a j)) 3 rfl ?_
    refine ev_ge (fun q => absurd q (nI_ge (by omega) (by omega))) (fun _ => ?_)
    refine am_ev_go (pc' := 13) (L' := [some (.ref a), some (.int v), some (.int (nI i)), some (.int (nI n))]) (st' := [.int v, .int (nI i), .ref a]) (sh' := sh) (M' := am_set M a (fun j => if j < i then v else M a j)) 3 rfl ?_
    refine ev_iast rfl hsh (nI_in (by omega) (by omega)) ?_
    rw [nI_clamp (by omega)]
    refine am_ev_go (pc' := 5) (L' := [some (.ref a), some (.int v), some (.int (nI i + 1)), some (.int (nI n))]) (st' := []) (sh' := sh) (M' := ds_w (am_set M a (fun j => if j < i then v else M a j)) a i v) 2 rfl ?_
    rw [nI_1]
    have hM : ds_w (am_set M a (fun j => if j < i then v else M a j)) a i v = am_set M a (fun j => if j < i + 1 then v else M a j) := by
      funext b j
      unfold ds_w
      by_cases hb : b = a
      · subst hb
        rw [am_set_s, am_set_s, am_set_s]
        unfold upd
        by_cases hj : j = i
        · rw [if_pos hj, if_pos (by omega)]
        · rw [if_neg hj]
          show (if j < i then v else M b j) = _
          by_cases hj2 : j < i
          · rw [if_pos hj2, if_pos (by omega)]
          · rw [if_neg hj2, if_neg (by omega)]
      · rw [am_set_n _ _ hb, am_set_n _ _ hb, am_set_n _ _ hb]
    rw [hM]
    exact te_7_5 hsh hn k (i + 1) (by omega)
theorem te_7 {sh : List am_C} {L : Nat} {xs : Nat → Int32} {a n : Nat} {g : Nat → Option Nat} {v : Int32} {M q : am_M} (hsh : am_nth sh a = some (.inr (0, n, g))) (hn : n < 100000) (h : fd_7 a n v M = some q) : am_ev (tb_P L xs) 7 0 [some (.ref a), some (.int v), none, none] [] sh M (none, sh, q) := by
  unfold fd_7 at h
  cases h
  refine am_ev_go (pc' := 3) (L' := [some (.ref a), some (.int v), some (.int 0), none]) (st' := [.ref a]) (sh' := sh) (M' := M) 3 rfl ?_
  refine ev_hp (n := 1) (i := .arraylength) rfl rfl rfl rfl rfl rfl rfl rfl (st' := [.int (Int32.ofNat n)]) (sh' := sh) (M' := M) (by simp only [am_hp, hsh]) ?_
  refine am_ev_go (pc' := 5) (L' := [some (.ref a), some (.int v), some (.int 0), some (.int (nI n))]) (st' := []) (sh' := sh) (M' := M) 1 rfl ?_
  have := te_7_5 (L := L) (xs := xs) (v := v) (M := M) hsh hn n 0 (by omega)
  have hM : am_set M a (fun j => if j < 0 then v else M a j) = M := by
    funext b j
    by_cases hb : b = a
    · subst hb
      rw [am_set_s, if_neg (by omega)]
    · rw [am_set_n _ _ hb]
  rw [hM] at this
  exact this
