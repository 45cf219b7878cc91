/-! The law's prefix -/
set_option maxRecDepth 50000 in
theorem te_129 {L : Nat} {xs : Nat → Int32} {sh : List am_C} {M : am_M} (hsh : sh.length ≤ 1048576) (hL : L ≤ 3073) : am_ev (tb_P L xs) 129 0 [some (.ref 1048582), some (.int 0)] [] sh M (some (.int (if 0 < L then xs 0 else 0)), sh, M) := by
  have hno : am_nth sh 1048582 = none := by
    rw [am_nth_eq]
    exact List.getElem?_eq_none (by omega)
  refine am_ev_go (pc' := 2) (L' := [some (.ref 1048582), some (.int 0)]) (st' := [.ref 1048582, .int 0]) (sh' := sh) (M' := M) 2 rfl ?_
  refine ev_hp (n := 1) (i := .arraylength) rfl rfl rfl rfl rfl rfl rfl rfl (st' := [.int (nI L), .int 0]) (sh' := sh) (M' := M) (by
    simp only [am_hp, hno]
    rfl) ?_
  refine am_ev_go (pc' := (am_br .ge 0 (nI L) 12 6)) (L' := [some (.ref 1048582), some (.int 0)]) (st' := []) (sh' := sh) (M' := M) 1 rfl ?_
  refine ev_ge (fun hc => ?_) (fun hc => ?_)
  · have h0 : ¬ 0 < L := fun q => nI_nle q (by omega) hc
    rw [if_neg h0]
    refine am_ev_go (pc' := 13) (L' := [some (.ref 1048582), some (.int 0)]) (st' := [.int 0]) (sh' := sh) (M' := M) 1 rfl ?_
    exact am_ev_ret rfl
  · have h0 : 0 < L := by
      rcases Nat.eq_zero_or_pos L with q | q
      · subst q
        exact absurd (by decide) hc
      · exact q
    rw [if_pos h0]
    refine am_ev_go (pc' := 8) (L' := [some (.ref 1048582), some (.int 0)]) (st' := [.int 0, .ref 1048582]) (sh' := sh) (M' := M) 2 rfl ?_
    refine ev_sld (N := L) (f := xs) rfl hno rfl (fun q => by
      rcases q with q | q
      · exact absurd q (by decide)
      · have : (0 : Int32).toNatClampNeg = 0 := rfl
        omega) ?_
    refine am_ev_go (pc' := 13) (L' := [some (.ref 1048582), some (.int 0)]) (st' := [.int (xs 0)]) (sh' := sh) (M' := M) 1 rfl ?_
    exact am_ev_ret rfl
theorem pf_gB : va_up (va_up (va_up (va_up (va_up (va_up (fun _ => none) 0 (some 7)) 1 (some 19)) 2 (some 31)) 3 (some 43)) 4 (some 55)) 5 (some 67) = sh_gB := by
  funext k
  unfold sh_gB
  by_cases h : k < 6
  · rw [if_pos h]
    rcases (show k = 0 ∨ k = 1 ∨ k = 2 ∨ k = 3 ∨ k = 4 ∨ k = 5 by omega) with rfl | rfl | rfl | rfl | rfl | rfl <;> rfl
  · rw [if_neg h]
    have e : ∀ j, j < 6 → ¬ k = j := fun j hj q => h (by omega)
    simp only [va_up, e 0 (by decide), e 1 (by decide), e 2 (by decide), e 3 (by decide), e 4 (by decide), e 5 (by decide), if_false]
theorem pf_gS (b : Nat) : va_up (va_up (va_up (va_up (va_up (va_up (va_up (va_up (va_up (va_up (fun _ => none) 0 (some (b + 2))) 1 (some (b + 3))) 2 (some (b + 4))) 3 (some (b + 5))) 4 (some (b + 6))) 5 (some (b + 7))) 6 (some (b + 8))) 7 (some (b + 9))) 8 (some (b + 10))) 9 (some (b + 11)) = sh_gS b := by
  funext k
  unfold sh_gS
  by_cases h : k < 10
  · rw [if_pos h]
    rcases (show k = 0 ∨ k = 1 ∨ k = 2 ∨ k = 3 ∨ k = 4 ∨ k = 5 ∨ k = 6 ∨ k = 7 ∨ k = 8 ∨ k = 9 by omega) with rfl | rfl | rfl | rfl | rfl | rfl | rfl | rfl | rfl | rfl <;> rfl
  · rw [if_neg h]
    have e : ∀ j, j < 10 → ¬ k = j := fun j hj q => h (by omega)
    simp only [va_up, e 0 (by decide), e 1 (by decide), e 2 (by decide), e 3 (by decide), e 4 (by decide), e 5 (by decide), e 6 (by decide), e 7 (by decide), e 8 (by decide), e 9 (by decide), if_false]
