/-- the number of actors: both clamp alike -/
theorem it_clamp (n : Int32) : ∃ c : Nat, 1 ≤ c ∧ c ≤ 4 ∧ (if (1 : Int32) < (if n < (4 : Int32) then n else (4 : Int32)) then (if n < (4 : Int32) then n else (4 : Int32)) else (1 : Int32)) = nI c ∧ (if (1 : Int32) ≤ n then (if n ≤ (4 : Int32) then n else (4 : Int32)) else (1 : Int32)) = nI c := by
  rcases pk_ix n (n := 5) (by omega) with q | q | ⟨j, hj, rfl⟩
  · have h1 : n < 4 := Int32.lt_trans q (by decide)
    have h2 : ¬ (1 : Int32) < n := fun z => absurd (Int32.lt_trans z q) (by decide)
    have h3 : ¬ (1 : Int32) ≤ n := fun z => absurd (Int32.lt_of_le_of_lt z q) (by decide)
    refine ⟨1, by omega, by omega, ?_, ?_⟩
    · rw [if_pos h1, if_neg h2]; rfl
    · rw [if_neg h3]; rfl
  · have h1 : ¬ n < 4 := fun z => absurd (Int32.lt_of_le_of_lt q z) (by decide)
    have h2 : (1 : Int32) ≤ n := Int32.le_trans (by decide) q
    have h3 : ¬ n ≤ 4 := fun z => absurd (Int32.le_trans q z) (by decide)
    refine ⟨4, by omega, by omega, ?_, ?_⟩
    · rw [if_neg h1, if_pos (by decide)]; rfl
    · rw [if_pos h2, if_neg h3]; rfl
  · rcases (show j = 0 ∨ j = 1 ∨ j = 2 ∨ j = 3 ∨ j = 4 by omega) with rfl | rfl | rfl | rfl | rfl
    · exact ⟨1, by omega, by omega, by decide, by decide⟩
    · exact ⟨1, by omega, by omega, by decide, by decide⟩
    · exact ⟨2, by omega, by omega, by decide, by decide⟩
    · exact ⟨3, by omega, by omega, by decide, by decide⟩
    · exact ⟨4, by omega, by omega, by decide, by decide⟩
theorem it_130 (n : Int32) (M : am_M) : fd_130 n M = fd_130_185 (if (1 : Int32) ≤ n then (if n ≤ (4 : Int32) then n else (4 : Int32)) else (1 : Int32)) M := by
  unfold fd_130
  by_cases h : (1 : Int32) ≤ n
  · rw [if_pos h, if_pos h]
    by_cases h2 : n ≤ 4
    · rw [if_pos h2, if_pos h2]
    · rw [if_neg h2, if_neg h2]
  · rw [if_neg h, if_neg h]
/-- the class's memory at the start -/
theorem it_M {n : Int32} {c : Nat} (hc : (if (1 : Int32) < (if n < (4 : Int32) then n else (4 : Int32)) then (if n < (4 : Int32) then n else (4 : Int32)) else (1 : Int32)) = nI c) : pf_M n 0 0 = nI c ∧ pf_M n 94 0 = nI c ∧ (∀ j, j < 16 → pf_M n 80 j = -1) ∧ (∀ j, j < 120 → pf_M n 82 j = -1) ∧ (∀ k, k ≠ 0 → k ≠ 80 → k ≠ 82 → k ≠ 94 → pf_M n k = fun _ => 0) ∧ ∀ j, j ≠ 0 → pf_M n 94 j = 0 := by
  unfold pf_M
  rw [hc]
  refine ⟨?_, ?_, fun j hj => ?_, fun j hj => ?_, fun k h1 h2 h3 h4 => ?_, fun j hj => ?_⟩
  · rw [ds_w, am_set_n _ _ (by decide), am_set_n _ _ (by decide), am_set_n _ _ (by decide), ds_w, am_set_s]
    rfl
  · rw [ds_w, am_set_s, upd, if_pos rfl, am_set_n _ _ (by decide), am_set_n _ _ (by decide), ds_w, am_set_s]
    rfl
  · rw [ds_w, am_set_n _ _ (by decide), am_set_n _ _ (by decide), am_set_s, if_pos hj]
  · rw [ds_w, am_set_n _ _ (by decide), am_set_s, if_pos hj]
  · rw [ds_w, am_set_n _ _ (by omega), am_set_n _ _ (by omega), am_set_n _ _ (by omega), ds_w, am_set_n _ _ (by omega)]
  · rw [ds_w, am_set_s, upd, if_neg hj, am_set_n _ _ (by decide), am_set_n _ _ (by decide), ds_w, am_set_n _ _ (by decide)]
/-- the relation at the start -/
theorem it_begin (n : Int32) : ∃ (M2 : am_M) (c : Nat), fd_130 n (pf_M n) = some M2 ∧ rl_A M2 c ∧ rl_O M2 c ∧ rl_C M2 ∧ rl_N M2 ∧ rl_H M2 ∧ rl_M M2 0 ∧ rl_L M2 ∧ rl_D M2 0 := by
  obtain ⟨c, h1, h4, hc, hr⟩ := it_clamp n
  obtain ⟨m1, m2, m3, m4, m5, m6⟩ := it_M hc
  obtain ⟨M2, e0, e1, e2, e3, e4, e5⟩ := it_185 (nI c) (pf_M n)
  have z : ∀ k, k ≠ 0 → k ≠ 80 → k ≠ 82 → k ≠ 94 → k ≠ 96 → k ≠ 97 → k ≠ 99 → k ≠ 101 → M2 k = fun _ => 0 := fun k a b c d e f g h => by rw [e5 k e f g h, m5 k a b c d]
  have z96 : ∀ j, j ≠ 0 → M2 96 j = 0 := fun j hj => by
    rw [e1, upd, if_neg hj, m5 96 (by decide) (by decide) (by decide) (by decide)]
  have k80 : ∀ j, j < 16 → M2 80 j = -1 := fun j hj => by rw [e5 80 (by decide) (by decide) (by decide) (by decide), m3 j hj]
  have k82 : ∀ j, j < 120 → M2 82 j = -1 := fun j hj => by rw [e5 82 (by decide) (by decide) (by decide) (by decide), m4 j hj]
  refine ⟨M2, c, by rw [it_130, hr]; exact e0, ⟨h1, h4, ?_, ?_, ?_⟩, fun j hj => ⟨by rw [k80 j hj, e2 j hj], Or.inl (e2 j hj)⟩, fun j hj hd => absurd (e2 j hj) hd, fun i hi => ?_, ⟨fun j k hj hk hd => absurd (e2 j hj) hd, fun a k ha hk => ?_⟩, ⟨by omega, ?_, ?_, fun i hi => by omega⟩, ?_, ⟨by omega, ?_, ?_, fun k _ hk => by omega⟩⟩
  · rw [e5 0 (by decide) (by decide) (by decide) (by decide), m1]
  · rw [e5 94 (by decide) (by decide) (by decide) (by decide), m2]
  · rw [e1, upd, if_pos rfl]
  · rw [z 83 (by decide) (by decide) (by decide) (by decide) (by decide) (by decide) (by decide) (by decide), z 100 (by decide) (by decide) (by decide) (by decide) (by decide) (by decide) (by decide) (by decide)]
  · rw [k82 _ (by omega), e4 _ (by omega)]
  · rw [z 84 (by decide) (by decide) (by decide) (by decide) (by decide) (by decide) (by decide) (by decide)]; rfl
  · rw [z96 15 (by decide)]; rfl
  · show M2 94 7 = M2 96 24
    rw [e5 94 (by decide) (by decide) (by decide) (by decide), m6 7 (by decide), z96 24 (by decide)]
  · rw [z 92 (by decide) (by decide) (by decide) (by decide) (by decide) (by decide) (by decide) (by decide)]; rfl
  · rw [z96 25 (by decide)]; rfl
