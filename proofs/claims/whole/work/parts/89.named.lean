/-! Statements: what they name -/
def pu_r (v : Int32) (n : Nat) : Bool := !(decide (v < 0)) && !(decide (nI n ≤ v))
theorem pu_r_of {v : Int32} {n : Nat} (hn : n < 1000) (h : pu_r v n = true) : ∃ j, j < n ∧ v = nI j := by
  unfold pu_r at h
  rcases pk_ix v (n := n) (by omega) with q | q | q
  · simp [q] at h
  · simp [q] at h
  · exact q
theorem pu_r_nI {j n : Nat} (hn : n < 1000) (h : j < n) : pu_r (nI j) n = true := by
  unfold pu_r
  have h1 : ¬ nI j < 0 := pu_pos (by omega)
  have h2 : ¬ nI n ≤ nI j := pu_ge h hn
  simp [h1, h2]
/-- the statement names only what there is; bg behaviours are begun -/
def st_nm (bg : Nat) (op x y f z : Int32) : Bool :=
  if op = 0 then pu_r x 6 && pu_r f 6
  else if op = 1 then pu_r x 6 && pu_r y 6
  else if op = 2 then pu_r x 6 && pu_r y 6
  else if op = 3 then pu_r x 6 && (pu_r y 7 && pu_r f 6)
  else if op = 4 then pu_r y 7 && (pu_r f 6 && pu_r z 6)
  else if op = 5 then pu_r x 6 && (pu_r y 7 && (pu_r f 6 && pu_r z 6))
  else if op = 6 then pu_r y 6
  else if op = 7 then pu_r y 6
  else if op = 8 then pu_r x 4 && (pu_r y bg && pu_r z 6)
  else if op = 9 then true
  else if op = 10 then pu_r x 6 && pu_r y 6
  else false
theorem sp_r {v : Int32} {n : Nat} {α : Type} {x y : α} : (if v < 0 then x else if nI n ≤ v then x else y) = if pu_r v n = true then y else x := by
  unfold pu_r
  by_cases h1 : v < 0
  · simp [h1]
  · by_cases h2 : nI n ≤ v
    · simp [h1, h2]
    · simp [h1, h2]
theorem sp_r4 {v : Int32} {α : Type} {x y : α} : (if v < 0 then x else if (4 : Int32) ≤ v then x else y) = if pu_r v 4 = true then y else x := sp_r
section
variable {M N : am_M}
theorem sq_148 (v : Int32) (n : Nat) (M : am_M) : fd_148 v (nI n) M = some (pu_b (pu_r v n), M) := by
  unfold fd_148 pu_b
  rw [sp_r]; split <;> rfl
theorem sq_29 (v : Int32) (M : am_M) : fd_29 v M = some (pu_b (pu_r v 6), M) := by
  unfold fd_29 pu_b
  rw [show (6 : Int32) = nI 6 from rfl, sp_r]; split <;> rfl
theorem sq_31 (v : Int32) (M : am_M) : fd_31 v M = some (pu_b (pu_r v 6), M) := by
  unfold fd_31 pu_b
  rw [show (6 : Int32) = nI 6 from rfl, sp_r]; split <;> rfl
theorem sq_15 (v : Int32) (M : am_M) : fd_15 v M = some (pu_b (pu_r v 6), M) := by
  unfold fd_15 pu_b
  rw [show (6 : Int32) = nI 6 from rfl, sp_r]; split <;> rfl
theorem pu_r_7 (v : Int32) : pu_r v 7 = (pu_r v 6 || decide (v = 6)) := by
  rcases pk_ix v (n := 7) (by omega) with q | q | ⟨j, hj, rfl⟩
  · have : v ≠ 6 := by rintro rfl; revert q; decide
    simp [pu_r, q, this]
  · have h6 : nI 6 ≤ v := Int32.le_trans (by decide) q
    have : v ≠ 6 := by rintro rfl; revert q; decide
    simp [pu_r, q, this, h6]
  · rcases (show j = 0 ∨ j = 1 ∨ j = 2 ∨ j = 3 ∨ j = 4 ∨ j = 5 ∨ j = 6 by omega) with rfl | rfl | rfl | rfl | rfl | rfl | rfl <;> decide
theorem sq_30 (v : Int32) (M : am_M) : fd_30 v M = some (pu_b (pu_r v 7), M) := by
  unfold fd_30 fd_30_13
  rw [sq_29, Option.bind_some, pu_r_7]
  cases h : pu_r v 6 with
  | true => simp [pu_b]
  | false =>
    by_cases h6 : v = 6
    · simp [pu_b, h6]
    · simp [pu_b, h6]
theorem pu_b_if {α : Type} {b : Bool} {x y : α} : (if pu_b b = 0 then x else y) = if b = true then y else x := by cases b <;> rfl
theorem sq_fit {b : Bool} : am_fit .boolean (pu_b b) = true := by cases b <;> decide
theorem sq_and {b c : Bool} {M : am_M} : (if b = true then some (pu_b c, M) else some ((0 : Int32), M)) = some (pu_b (b && c), M) := by cases b <;> rfl
theorem sq_one {b : Bool} {M : am_M} : (if b = true then some ((1 : Int32), M) else some ((0 : Int32), M)) = some (pu_b b, M) := by cases b <;> rfl
/-- namesOnlyWhatIs -/
theorem cs_28 {h bg : Nat} {op x y f z : Int32} (h0 : M h 0 = op) (h1 : M h 1 = x) (h2 : M h 2 = y) (h3 : M h 3 = f) (h4 : M h 4 = z) : fd_28 h (nI bg) M = some (pu_b (st_nm bg op x y f z), M) := by
  unfold fd_28 st_nm
  simp only [h0, h1, h2, h3, h4, sq_29, sq_30, sq_31, sq_15, Option.bind_some, pu_b_if, sq_one, sq_and, sq_fit, if_true, sp_r4, sp_r]
  by_cases e0 : op = 0
  · simp only [if_pos e0]
  rw [if_neg e0, if_neg e0]
  by_cases e1 : op = 1
  · simp only [if_pos e1]
  rw [if_neg e1, if_neg e1]
  by_cases e2 : op = 2
  · simp only [if_pos e2]
  rw [if_neg e2, if_neg e2]
  by_cases e3 : op = 3
  · simp only [if_pos e3]
  rw [if_neg e3, if_neg e3]
  by_cases e4 : op = 4
  · simp only [if_pos e4]
  rw [if_neg e4, if_neg e4]
  by_cases e5 : op = 5
  · simp only [if_pos e5]
  rw [if_neg e5, if_neg e5]
  by_cases e6 : op = 6
  · simp only [if_pos e6]
  rw [if_neg e6, if_neg e6]
  by_cases e7 : op = 7
  · simp only [if_pos e7]
  rw [if_neg e7, if_neg e7]
  by_cases e8 : op = 8
  · simp only [if_pos e8]
  rw [if_neg e8, if_neg e8]
  by_cases e9 : op = 9
  · simp only [if_pos e9]; rfl
  rw [if_neg e9, if_neg e9]
  by_cases e10 : op = 10
  · simp only [if_pos e10]
  rw [if_neg e10, if_neg e10]
  rfl
/-- named -/
theorem rs_147 {bg : Nat} (hb : N 96 6 = nI bg) (op x y f z : Int32) : fd_147 op x y f z N = some (pu_b (st_nm bg op x y f z), N) := by
  unfold fd_147
  rw [show (11 : Int32) = nI 11 from rfl, sq_148, Option.bind_some]
  by_cases hr : pu_r op 11 = true
  · obtain ⟨j, hj, rfl⟩ := pu_r_of (by decide) hr
    simp only [hr, pu_b_if, if_true]
    have key : ∀ v : Int32, fd_148 v (6 : Int32) N = some (pu_b (pu_r v 6), N) ∧ fd_148 v (7 : Int32) N = some (pu_b (pu_r v 7), N) ∧ fd_148 v (4 : Int32) N = some (pu_b (pu_r v 4), N) ∧ fd_148 v (N 96 6) N = some (pu_b (pu_r v bg), N) := fun v => ⟨sq_148 v 6 N, sq_148 v 7 N, sq_148 v 4 N, by rw [hb]; exact sq_148 v bg N⟩
    have k6 := fun v => (key v).1
    have k7 := fun v => (key v).2.1
    have k4 := fun v => (key v).2.2.1
    have kb := fun v => (key v).2.2.2
    rcases (show j = 0 ∨ j = 1 ∨ j = 2 ∨ j = 3 ∨ j = 4 ∨ j = 5 ∨ j = 6 ∨ j = 7 ∨ j = 8 ∨ j = 9 ∨ j = 10 by omega) with rfl | rfl | rfl | rfl | rfl | rfl | rfl | rfl | rfl | rfl | rfl
    · rw [show nI 0 = (0 : Int32) from rfl]
      simp [fd_147_161, fd_147_136, fd_147_128, fd_147_126, fd_147_103, fd_147_84, fd_147_69, fd_147_53, fd_147_52, fd_147_48, fd_147_32, fd_147_27, fd_149, fd_149_16, fd_150, fd_150_11, fd_150_17, k6, k7, k4, kb, pu_b_if, sq_and, sq_one, st_nm]
    · rw [show nI 1 = (1 : Int32) from rfl]
      simp [fd_147_161, fd_147_136, fd_147_128, fd_147_126, fd_147_103, fd_147_84, fd_147_69, fd_147_53, fd_147_52, fd_147_48, fd_147_32, fd_147_27, fd_149, fd_149_16, fd_150, fd_150_11, fd_150_17, k6, k7, k4, kb, pu_b_if, sq_and, sq_one, st_nm]
    · rw [show nI 2 = (2 : Int32) from rfl]
      simp [fd_147_161, fd_147_136, fd_147_128, fd_147_126, fd_147_103, fd_147_84, fd_147_69, fd_147_53, fd_147_52, fd_147_48, fd_147_32, fd_147_27, fd_149, fd_149_16, fd_150, fd_150_11, fd_150_17, k6, k7, k4, kb, pu_b_if, sq_and, sq_one, st_nm]
    · rw [show nI 3 = (3 : Int32) from rfl]
      simp [fd_147_161, fd_147_136, fd_147_128, fd_147_126, fd_147_103, fd_147_84, fd_147_69, fd_147_53, fd_147_52, fd_147_48, fd_147_32, fd_147_27, fd_149, fd_149_16, fd_150, fd_150_11, fd_150_17, k6, k7, k4, kb, pu_b_if, sq_and, sq_one, st_nm]
      cases pu_r x 6 <;> cases pu_r y 7 <;> cases pu_r f 6 <;> rfl
    · rw [show nI 4 = (4 : Int32) from rfl]
      simp [fd_147_161, fd_147_136, fd_147_128, fd_147_126, fd_147_103, fd_147_84, fd_147_69, fd_147_53, fd_147_52, fd_147_48, fd_147_32, fd_147_27, fd_149, fd_149_16, fd_150, fd_150_11, fd_150_17, k6, k7, k4, kb, pu_b_if, sq_and, sq_one, st_nm]
      cases pu_r y 7 <;> cases pu_r f 6 <;> cases pu_r z 6 <;> rfl
    · rw [show nI 5 = (5 : Int32) from rfl]
      simp [fd_147_161, fd_147_136, fd_147_128, fd_147_126, fd_147_103, fd_147_84, fd_147_69, fd_147_53, fd_147_52, fd_147_48, fd_147_32, fd_147_27, fd_149, fd_149_16, fd_150, fd_150_11, fd_150_17, k6, k7, k4, kb, pu_b_if, sq_and, sq_one, st_nm]
      cases pu_r x 6 <;> cases pu_r y 7 <;> cases pu_r f 6 <;> cases pu_r z 6 <;> rfl
    · rw [show nI 6 = (6 : Int32) from rfl]
      simp [fd_147_161, fd_147_136, fd_147_128, fd_147_126, fd_147_103, fd_147_84, fd_147_69, fd_147_53, fd_147_52, fd_147_48, fd_147_32, fd_147_27, fd_149, fd_149_16, fd_150, fd_150_11, fd_150_17, k6, k7, k4, kb, pu_b_if, sq_and, sq_one, st_nm]
    · rw [show nI 7 = (7 : Int32) from rfl]
      simp [fd_147_161, fd_147_136, fd_147_128, fd_147_126, fd_147_103, fd_147_84, fd_147_69, fd_147_53, fd_147_52, fd_147_48, fd_147_32, fd_147_27, fd_149, fd_149_16, fd_150, fd_150_11, fd_150_17, k6, k7, k4, kb, pu_b_if, sq_and, sq_one, st_nm]
    · rw [show nI 8 = (8 : Int32) from rfl]
      simp [fd_147_161, fd_147_136, fd_147_128, fd_147_126, fd_147_103, fd_147_84, fd_147_69, fd_147_53, fd_147_52, fd_147_48, fd_147_32, fd_147_27, fd_149, fd_149_16, fd_150, fd_150_11, fd_150_17, k6, k7, k4, kb, pu_b_if, sq_and, sq_one, st_nm]
      cases pu_r x 4 <;> cases pu_r y bg <;> cases pu_r z 6 <;> rfl
    · rw [show nI 9 = (9 : Int32) from rfl]
      simp [fd_147_161, fd_147_136, fd_147_128, fd_147_126, fd_147_103, fd_147_84, fd_147_69, fd_147_53, fd_147_52, fd_147_48, fd_147_32, fd_147_27, fd_149, fd_149_16, fd_150, fd_150_11, fd_150_17, k6, k7, k4, kb, pu_b_if, sq_and, sq_one, st_nm]
      rfl
    · rw [show nI 10 = (10 : Int32) from rfl]
      simp [fd_147_161, fd_147_136, fd_147_128, fd_147_126, fd_147_103, fd_147_84, fd_147_69, fd_147_53, fd_147_52, fd_147_48, fd_147_32, fd_147_27, fd_149, fd_149_16, fd_150, fd_150_11, fd_150_17, k6, k7, k4, kb, pu_b_if, sq_and, sq_one, st_nm]
  · have h0 : pu_r op 11 = false := by simpa using hr
    have : st_nm bg op x y f z = false := by
      have ne : ∀ k, k < 11 → op ≠ nI k := by
        rintro k hk rfl; rw [pu_r_nI (by decide) hk] at h0; cases h0
      unfold st_nm
      rw [if_neg (show ¬ op = (0 : Int32) from ne 0 (by decide)), if_neg (show ¬ op = (1 : Int32) from ne 1 (by decide)), if_neg (show ¬ op = (2 : Int32) from ne 2 (by decide)), if_neg (show ¬ op = (3 : Int32) from ne 3 (by decide)), if_neg (show ¬ op = (4 : Int32) from ne 4 (by decide)), if_neg (show ¬ op = (5 : Int32) from ne 5 (by decide)), if_neg (show ¬ op = (6 : Int32) from ne 6 (by decide)), if_neg (show ¬ op = (7 : Int32) from ne 7 (by decide)), if_neg (show ¬ op = (8 : Int32) from ne 8 (by decide)), if_neg (show ¬ op = (9 : Int32) from ne 9 (by decide)), if_neg (show ¬ op = (10 : Int32) from ne 10 (by decide))]
    rw [this, h0]; rfl
end
