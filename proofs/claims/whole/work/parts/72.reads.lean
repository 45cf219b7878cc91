/-! waiting, lost, shown -/
/-- one row of mail, and the losses -/
def rl_M (M : am_M) (m : Nat) : Prop := m ≤ 20 ∧ M 84 4 = nI m ∧ M 96 15 = nI m ∧ ∀ i, i < m → M 85 i = M 108 i ∧ M 86 i = M 109 i
def rl_L (M : am_M) : Prop := M 94 7 = M 96 24
/-- what was shown: t times; the class's ring, the reference's row -/
def rl_D (M : am_M) (t : Nat) : Prop := t < 100000 ∧ M 92 1 = nI t ∧ M 96 25 = nI t ∧ ∀ k, k < 16 → k < t → M 93 ((t - 1 - k) % 16) = M 116 k
theorem pu_cnt_eq {f g : Nat → Int32} {a : Int32} : ∀ (k i : Nat), (∀ j, i ≤ j → j < i + k → f j = g j) → pu_cnt f a i k = pu_cnt g a i k
  | 0, _, _ => rfl
  | k + 1, i, h => by
    rw [pu_cnt, pu_cnt, h i (by omega) (by omega), pu_cnt_eq k (i + 1) (fun j h1 h2 => h j (by omega) (by omega))]
theorem sp_171_17 {n : Nat} (hn : n ≤ 20) {M : am_M} (hM : M 96 15 = nI n) (a : Int32) : ∀ (k i c f : Nat), i + k = n → k < f → fd_171_17 f a (nI c) (nI i) M = some (nI (c + pu_cnt (M 109) a i k), M)
  | 0, i, c, 0, h, hf => by omega
  | 0, i, c, f + 1, h, hf => by
    show (if (M 96 15) ≤ nI i then _ else _) = _
    rw [hM, if_pos (nI_le (by omega) (by omega))]
    rfl
  | k + 1, i, c, 0, h, hf => by omega
  | k + 1, i, c, f + 1, h, hf => by
    have ih := fun c' => sp_171_17 hn hM a k (i + 1) c' f (by omega) (by omega)
    show (if (M 96 15) ≤ nI i then _ else (if nI i < 0 ∨ 20 ≤ (nI i).toNatClampNeg then none else if (M 109 (nI i).toNatClampNeg) = a then fd_171_17 f a (nI c + 1) (nI i + 1) M else fd_171_17 f a (nI c) (nI i + 1) M)) = _
    rw [hM, if_neg (nI_ge (by omega) (by omega)), if_neg (pu_in (by omega) (by decide)), pu_cl (by omega), nI_1, nI_1, ih, ih]
    by_cases hc : M 109 i = a
    · rw [if_pos hc, pu_cnt, if_pos hc]
      congr 3
      omega
    · rw [if_neg hc, pu_cnt, if_neg hc, Nat.zero_add]
theorem op_waiting {M : am_M} {n m : Nat} (hA : rl_A M n) (hM : rl_M M m) (a : Int32) : ∃ r, fd_110 a M = some (r, M) ∧ fd_171 a M = some (r, M) := by
  obtain ⟨h1, h4, hA0, hA1, hA2⟩ := hA
  obtain ⟨hm, hM0, hM1, hM2⟩ := hM
  by_cases ha : pu_is a n
  · obtain ⟨i, hi, rfl⟩ := ha
    refine ⟨nI (pu_cnt (M 109) (nI i) 0 m), ?_, ?_⟩
    · unfold fd_110
      rw [sp_63 h4 hi hA0]
      simp only [Option.bind_some]
      rw [if_neg pu_10, sp_111 hm hM0, pu_cnt_eq (g := M 109) m 0 (fun j _ h => (hM2 j (by omega)).2)]
      rfl
    · unfold fd_171
      rw [hA2, sp_148 hi (by omega)]
      simp only [Option.bind_some]
      rw [if_neg pu_10]
      have := sp_171_17 hm hM1 (nI i) m 0 0 1000 (by omega) (by omega)
      rw [Nat.zero_add] at this
      exact this
  · refine ⟨-1, ?_, ?_⟩
    · unfold fd_110
      rw [sp_63_no h4 ha hA0]
      rfl
    · unfold fd_171
      rw [hA2, sp_148_no (by omega) ha]
      rfl
theorem op_lost {M : am_M} (hL : rl_L M) : ∃ r, fd_127 M = some (r, M) ∧ fd_182 M = some (r, M) := by
  refine ⟨M 96 24, ?_, rfl⟩
  unfold fd_127 fd_128
  simp only [Option.bind_some]
  rw [show M 94 7 = M 96 24 from hL]
theorem op_shown {M : am_M} {t : Nat} (hD : rl_D M t) (a : Int32) : ∃ r, fd_123 a M = some (r, M) ∧ fd_180 a M = some (r, M) := by
  obtain ⟨ht, h0, h1, h2⟩ := hD
  by_cases hm : a = -1
  · refine ⟨nI t, ?_, ?_⟩
    · unfold fd_123 fd_124
      rw [if_pos hm, h0]
      rfl
    · unfold fd_180
      rw [if_pos hm, h1]
  by_cases ha : pu_is a 16
  · obtain ⟨k, hk, rfl⟩ := ha
    by_cases hkt : k < t
    · refine ⟨M 116 k, ?_, ?_⟩
      · unfold fd_123 fd_125
        rw [if_neg hm, if_neg (pu_pos (by omega)), if_neg (show ¬ (16 : Int32) ≤ nI k from pu_ge (n := 16) hk (by decide)), h0, if_pos (nI_lt hkt (by omega))]
        rw [show nI t - (1 : Int32) = nI (t - 1) from pk_sub (a := t) (b := 1) (by omega), pk_sub (a := t - 1) (b := k) (by omega), if_neg (nI_pos (by omega))]
        rw [show nI (t - 1 - k) - nI (t - 1 - k) / 16 * 16 = nI ((t - 1 - k) % 16) from pk_rem (a := t - 1 - k) (d := 16) (by omega) (by decide) (by decide)]
        rw [if_neg (pu_in (n := 16) (Nat.mod_lt _ (by decide)) (by decide)), pu_cl (by omega), h2 k hk hkt]
        rfl
      · unfold fd_180
        rw [if_neg hm, show fd_148 (nI k) (16 : Int32) M = some (1, M) from sp_148 (n := 16) hk (by decide) M]
        simp only [Option.bind_some]
        rw [if_neg pu_10, h1, if_neg (nI_ge hkt (by omega)), if_neg (pu_in hk (by decide)), pu_cl (by omega)]
    · refine ⟨0, ?_, ?_⟩
      · unfold fd_123 fd_125
        rw [if_neg hm, if_neg (pu_pos (by omega)), if_neg (show ¬ (16 : Int32) ≤ nI k from pu_ge (n := 16) hk (by decide)), h0, if_neg (nI_nlt (by omega) (by omega))]
        rfl
      · unfold fd_180
        rw [if_neg hm, show fd_148 (nI k) (16 : Int32) M = some (1, M) from sp_148 (n := 16) hk (by decide) M]
        simp only [Option.bind_some]
        rw [if_neg pu_10, h1, if_pos (nI_le (by omega) (by omega))]
  · refine ⟨0, ?_, ?_⟩
    · unfold fd_123 fd_125
      rw [if_neg hm]
      by_cases hz : a < 0
      · rw [if_pos hz]; rfl
      · rw [if_neg hz, if_pos (show (16 : Int32) ≤ a from (pu_no (n := 16) (by decide) ha).resolve_left hz)]; rfl
    · unfold fd_180
      rw [if_neg hm, show fd_148 a (16 : Int32) M = some (0, M) from sp_148_no (n := 16) (by decide) ha M]
      rfl
