set_option maxRecDepth 50000 in
/-- the small machine answers 1 on every script -/
theorem wh_main {L : Nat} (xs : Nat → Int32) (hL : L ≤ 3073) : ∃ (sh' : List am_C) (M' : am_M), am_ev (tb_P L xs) 0 0 [some (.ref 1048582), none, none, none] [] [] (fun _ _ => 0) (some (.int 1), sh', M') ∧ sh'.length ≤ 600000 ∧ am_sz sh' ≤ 7302250 := by
  obtain ⟨M2, M', h1, h2⟩ := wh_pure xs hL
  exact ⟨sh_A, M', pf_run hL rfl h1 h2, Nat.le_of_ble_eq_true rfl, Nat.le_of_ble_eq_true rfl⟩
