/-! The relation between the class's memory and the reference's -/
/-- numbers of both: n actors; owners -/
def rl_A (M : am_M) (n : Nat) : Prop := 1 ≤ n ∧ n ≤ 4 ∧ M 0 0 = nI n ∧ M 94 0 = nI n ∧ M 96 0 = nI n
def rl_O (M : am_M) (n : Nat) : Prop := ∀ j, j < 16 → M 80 j = M 97 j ∧ (M 97 j = -1 ∨ ∃ a, a < n ∧ M 97 j = nI a)
def rl_C (M : am_M) : Prop := ∀ j, j < 16 → M 97 j ≠ -1 → M 81 j = M 98 j
def rl_N (M : am_M) : Prop := ∀ i, i < 64 → M 83 i = M 100 i
def rl_H (M : am_M) : Prop := (∀ j k, j < 16 → k < 6 → M 97 j ≠ -1 → M 82 (j * 6 + k) = M 99 (6 * j + k)) ∧ ∀ a k, a < 4 → k < 6 → M 82 ((16 + a) * 6 + k) = M 101 (6 * a + k)
theorem pu_10 : ¬ (1 : Int32) = 0 := by decide
/-- the reference's below -/
theorem sp_148 {a n : Nat} (ha : a < n) (hn : n < 1000) (M : am_M) : fd_148 (nI a) (nI n) M = some (1, M) := by
  unfold fd_148
  rw [if_neg (pu_pos (by omega)), if_neg (pu_ge ha hn)]
theorem sp_148_no {a : Int32} {n : Nat} (hn : n < 1000) (h : ¬ pu_is a n) (M : am_M) : fd_148 a (nI n) M = some (0, M) := by
  unfold fd_148
  by_cases h0 : a < 0
  · rw [if_pos h0]
  · rw [if_neg h0, if_pos ((pu_no hn h).resolve_left h0)]
/-- there -/
theorem sp_173 {j : Nat} (hj : j < 16) (M : am_M) : fd_173 (nI j) M = some (if M 97 j = -1 then 0 else 1, M) := by
  unfold fd_173
  rw [show fd_148 (nI j) (16 : Int32) M = some (1, M) from sp_148 (n := 16) hj (by decide) M]
  simp only [Option.bind_some]
  rw [if_neg pu_10, if_neg (pu_in hj (by decide)), pu_cl (by omega)]
  split <;> rfl
theorem sp_173_no {a : Int32} (h : ¬ pu_is a 16) (M : am_M) : fd_173 a M = some (0, M) := by
  unfold fd_173
  rw [show fd_148 a (16 : Int32) M = some (0, M) from sp_148_no (n := 16) (by decide) h M]
  rfl
/-- owner: class and reference answer alike -/
theorem op_owner {M : am_M} {n : Nat} (hO : rl_O M n) (a : Int32) : ∃ r, fd_112 a M = some (r, M) ∧ fd_172 a M = some (r, M) := by
  by_cases h : pu_is a 16
  · obtain ⟨j, hj, rfl⟩ := h
    refine ⟨if M 97 j = -1 then -1 else M 97 j, ?_, ?_⟩
    · unfold fd_112
      rw [sp_107 hj, (hO j hj).1]
      by_cases hd : M 97 j = -1
      · rw [if_pos hd, if_pos hd]; rfl
      · rw [if_neg hd, if_neg hd]
        simp only [Option.bind_some]
        rw [if_neg pu_10, sp_81 hj, (hO j hj).1]
        rfl
    · unfold fd_172
      rw [sp_173 hj]
      by_cases hd : M 97 j = -1
      · rw [if_pos hd, if_pos hd]; rfl
      · rw [if_neg hd, if_neg hd]
        simp only [Option.bind_some]
        rw [if_neg pu_10, if_neg (pu_in hj (by decide)), pu_cl (by omega)]
  · refine ⟨-1, ?_, ?_⟩
    · unfold fd_112
      rw [sp_107_no h]
      rfl
    · unfold fd_172
      rw [sp_173_no h]
      rfl
/-- cell -/
theorem op_cell {M : am_M} {n : Nat} (hO : rl_O M n) (hC : rl_C M) (a : Int32) : ∃ r, fd_113 a M = some (r, M) ∧ fd_174 a M = some (r, M) := by
  by_cases h : pu_is a 16
  · obtain ⟨j, hj, rfl⟩ := h
    refine ⟨if M 97 j = -1 then 0 else M 98 j, ?_, ?_⟩
    · unfold fd_113
      rw [sp_107 hj, (hO j hj).1]
      by_cases hd : M 97 j = -1
      · rw [if_pos hd, if_pos hd]; rfl
      · rw [if_neg hd, if_neg hd]
        simp only [Option.bind_some]
        rw [if_neg pu_10, sp_97 hj, hC j hj hd]
        rfl
    · unfold fd_174
      rw [sp_173 hj]
      by_cases hd : M 97 j = -1
      · rw [if_pos hd, if_pos hd]; rfl
      · rw [if_neg hd, if_neg hd]
        simp only [Option.bind_some]
        rw [if_neg pu_10, if_neg (pu_in hj (by decide)), pu_cl (by omega)]
  · exact ⟨0, by unfold fd_113; rw [sp_107_no h]; rfl, by unfold fd_174; rw [sp_173_no h]; rfl⟩
/-- count -/
theorem op_count {M : am_M} {n : Nat} (hA : rl_A M n) (hO : rl_O M n) (hN : rl_N M) (a b : Int32) : ∃ r, fd_114 a b M = some (r, M) ∧ fd_175 a b M = some (r, M) := by
  obtain ⟨h1, h4, hA0, hA1, hA2⟩ := hA
  by_cases ha : pu_is a n
  · obtain ⟨i, hi, rfl⟩ := ha
    by_cases h : pu_is b 16
    · obtain ⟨j, hj, rfl⟩ := h
      refine ⟨if M 97 j = -1 then -1 else M 100 (i * 16 + j), ?_, ?_⟩
      · unfold fd_114
        rw [sp_63 h4 hi hA0]
        simp only [Option.bind_some]
        rw [if_neg pu_10, sp_107 hj, (hO j hj).1]
        by_cases hd : M 97 j = -1
        · rw [if_pos hd, if_pos hd]; rfl
        · rw [if_neg hd, if_neg hd]
          simp only [Option.bind_some]
          rw [if_neg pu_10, sp_101 (by omega) hj, hN _ (by omega)]
          rfl
      · unfold fd_175
        rw [hA2, sp_148 hi (by omega)]
        simp only [Option.bind_some]
        rw [if_neg pu_10, sp_173 hj]
        by_cases hd : M 97 j = -1
        · rw [if_pos hd, if_pos hd]; rfl
        · rw [if_neg hd, if_neg hd]
          simp only [Option.bind_some]
          rw [if_neg pu_10, show ((16 : Int32) * nI i + nI j) = nI (16 * i + j) from pu_ma 16 i j, if_neg (pu_in (n := 64) (by omega) (by decide)), pu_cl (by omega), Nat.mul_comm]
    · refine ⟨-1, ?_, ?_⟩
      · unfold fd_114
        rw [sp_63 h4 hi hA0]
        simp only [Option.bind_some]
        rw [if_neg pu_10, sp_107_no h]
        rfl
      · unfold fd_175
        rw [hA2, sp_148 hi (by omega)]
        simp only [Option.bind_some]
        rw [if_neg pu_10, sp_173_no h]
        rfl
  · refine ⟨-1, ?_, ?_⟩
    · unfold fd_114
      rw [sp_63_no h4 ha hA0]
      rfl
    · unfold fd_175
      rw [hA2, sp_148_no (by omega) ha]
      rfl
theorem sp_31 {k : Nat} (hk : k < 6) (M : am_M) : fd_31 (nI k) M = some (1, M) := by
  unfold fd_31
  rw [if_neg (pu_pos (by omega)), if_neg (show ¬ (6 : Int32) ≤ nI k from pu_ge (n := 6) hk (by decide))]
theorem sp_31_no {a : Int32} (h : ¬ pu_is a 6) (M : am_M) : fd_31 a M = some (0, M) := by
  unfold fd_31
  by_cases h0 : a < 0
  · rw [if_pos h0]
  · rw [if_neg h0]
    exact if_pos ((pu_no (by decide) h).resolve_left h0)
/-- field -/
theorem op_field {M : am_M} {n : Nat} (hA : rl_A M n) (hH : rl_H M) (a b : Int32) : ∃ r, fd_115 a b M = some (r, M) ∧ fd_176 a b M = some (r, M) := by
  obtain ⟨h1, h4, hA0, hA1, hA2⟩ := hA
  by_cases ha : pu_is a n
  · obtain ⟨i, hi, rfl⟩ := ha
    by_cases h : pu_is b 6
    · obtain ⟨k, hk, rfl⟩ := h
      refine ⟨M 101 (6 * i + k), ?_, ?_⟩
      · unfold fd_115
        rw [sp_63 h4 hi hA0]
        simp only [Option.bind_some]
        rw [if_neg pu_10, sp_31 hk]
        simp only [Option.bind_some]
        rw [if_neg pu_10]
        unfold fd_91
        simp only [Option.bind_some]
        rw [show ((16 : Int32) + nI i) = nI (16 + i) from nI_add 16 i, sp_79 (by omega) hk, hH.2 i k (by omega) hk]
        rfl
      · unfold fd_176
        rw [hA2, sp_148 hi (by omega)]
        simp only [Option.bind_some]
        rw [if_neg pu_10, show fd_148 (nI k) (6 : Int32) M = some (1, M) from sp_148 (n := 6) hk (by decide) M]
        simp only [Option.bind_some]
        rw [if_neg pu_10, show ((6 : Int32) * nI i + nI k) = nI (6 * i + k) from pu_ma 6 i k, if_neg (pu_in (n := 24) (by omega) (by decide)), pu_cl (by omega)]
    · refine ⟨-1, ?_, ?_⟩
      · unfold fd_115
        rw [sp_63 h4 hi hA0]
        simp only [Option.bind_some]
        rw [if_neg pu_10, sp_31_no h]
        rfl
      · unfold fd_176
        rw [hA2, sp_148 hi (by omega)]
        simp only [Option.bind_some]
        rw [if_neg pu_10, show fd_148 b (6 : Int32) M = some (0, M) from sp_148_no (n := 6) (by decide) h M]
        rfl
  · refine ⟨-1, ?_, ?_⟩
    · unfold fd_115
      rw [sp_63_no h4 ha hA0]
      rfl
    · unfold fd_176
      rw [hA2, sp_148_no (by omega) ha]
      rfl
/-- inner -/
theorem op_inner {M : am_M} {n : Nat} (hO : rl_O M n) (hH : rl_H M) (a b : Int32) : ∃ r, fd_116 a b M = some (r, M) ∧ fd_177 a b M = some (r, M) := by
  by_cases ha : pu_is a 16
  · obtain ⟨j, hj, rfl⟩ := ha
    by_cases hd : M 97 j = -1
    · refine ⟨-1, ?_, ?_⟩
      · unfold fd_116
        rw [sp_107 hj, (hO j hj).1, if_pos hd]
        rfl
      · unfold fd_177
        rw [sp_173 hj, if_pos hd]
        rfl
    by_cases h : pu_is b 6
    · obtain ⟨k, hk, rfl⟩ := h
      refine ⟨M 99 (6 * j + k), ?_, ?_⟩
      · unfold fd_116
        rw [sp_107 hj, (hO j hj).1, if_neg hd]
        simp only [Option.bind_some]
        rw [if_neg pu_10, sp_31 hk]
        simp only [Option.bind_some]
        rw [if_neg pu_10, sp_79 (by omega) hk, hH.1 j k hj hk hd]
        rfl
      · unfold fd_177
        rw [sp_173 hj, if_neg hd]
        simp only [Option.bind_some]
        rw [if_neg pu_10, show fd_148 (nI k) (6 : Int32) M = some (1, M) from sp_148 (n := 6) hk (by decide) M]
        simp only [Option.bind_some]
        rw [if_neg pu_10, show ((6 : Int32) * nI j + nI k) = nI (6 * j + k) from pu_ma 6 j k, if_neg (pu_in (n := 96) (by omega) (by decide)), pu_cl (by omega)]
    · refine ⟨-1, ?_, ?_⟩
      · unfold fd_116
        rw [sp_107 hj, (hO j hj).1, if_neg hd]
        simp only [Option.bind_some]
        rw [if_neg pu_10, sp_31_no h]
        rfl
      · unfold fd_177
        rw [sp_173 hj, if_neg hd]
        simp only [Option.bind_some]
        rw [if_neg pu_10, show fd_148 b (6 : Int32) M = some (0, M) from sp_148_no (n := 6) (by decide) h M]
        rfl
  · exact ⟨-1, by unfold fd_116; rw [sp_107_no ha]; rfl, by unfold fd_177; rw [sp_173_no ha]; rfl⟩
