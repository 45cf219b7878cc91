/-! The start: what both constructors leave -/
theorem it_set {M : am_M} {h i N : Nat} (hi : i < N) : am_set (ds_w M h i (-1)) h (fun j => if i + 1 ≤ j ∧ j < N then (-1 : Int32) else ds_w M h i (-1) h j) = am_set M h (fun j => if i ≤ j ∧ j < N then (-1 : Int32) else M h j) := by
  funext b j
  by_cases hb : b = h
  · subst hb
    rw [am_set_s, am_set_s]
    unfold ds_w
    rw [am_set_s]
    unfold upd
    by_cases h1 : i + 1 ≤ j ∧ j < N
    · rw [if_pos h1, if_pos (by omega)]
    · rw [if_neg h1]
      by_cases h2 : j = i
      · rw [if_pos h2, if_pos (by omega)]
      · rw [if_neg h2, if_neg (by omega)]
  · rw [am_set_n _ _ hb, am_set_n _ _ hb]
    unfold ds_w
    rw [am_set_n _ _ hb]
theorem it_end {M : am_M} {h i N : Nat} (hi : N ≤ i) : am_set M h (fun j => if i ≤ j ∧ j < N then (-1 : Int32) else M h j) = M := by
  funext b j
  by_cases hb : b = h
  · subst hb
    rw [am_set_s, if_neg (by omega)]
  · rw [am_set_n _ _ hb]
theorem it_232 : ∀ (k i f : Nat) (M : am_M), i + k = 24 → k < f → fd_130_232 f (nI i) M = some (am_set M 101 (fun j => if i ≤ j ∧ j < 24 then (-1 : Int32) else M 101 j))
  | 0, i, 0, M, h, hf => by omega
  | 0, i, f + 1, M, h, hf => by
    show (if (24 : Int32) ≤ nI i then some M else (if nI i < 0 ∨ 24 ≤ (nI i).toNatClampNeg then none else fd_130_232 f (nI i + 1) (ds_w M 101 (nI i).toNatClampNeg (-1)))) = _
    rw [if_pos (show (24 : Int32) ≤ nI i from nI_le (a := 24) (by omega) (by omega)), it_end (by omega)]
  | k + 1, i, 0, M, h, hf => by omega
  | k + 1, i, f + 1, M, h, hf => by
    show (if (24 : Int32) ≤ nI i then some M else (if nI i < 0 ∨ 24 ≤ (nI i).toNatClampNeg then none else fd_130_232 f (nI i + 1) (ds_w M 101 (nI i).toNatClampNeg (-1)))) = _
    rw [if_neg (show ¬ (24 : Int32) ≤ nI i from pu_ge (n := 24) (by omega) (by decide)), if_neg (pu_in (by omega) (by decide)), pu_cl (by omega), nI_1, it_232 k (i + 1) f _ (by omega) (by omega), it_set (by omega)]
theorem it_211 : ∀ (k i f : Nat) (M : am_M), i + k = 96 → k < f → fd_130_211 f (nI i) M = fd_130_232 1000 0 (am_set M 99 (fun j => if i ≤ j ∧ j < 96 then (-1 : Int32) else M 99 j))
  | 0, i, 0, M, h, hf => by omega
  | 0, i, f + 1, M, h, hf => by
    show (if (96 : Int32) ≤ nI i then fd_130_232 1000 0 M else (if nI i < 0 ∨ 96 ≤ (nI i).toNatClampNeg then none else fd_130_211 f (nI i + 1) (ds_w M 99 (nI i).toNatClampNeg (-1)))) = _
    rw [if_pos (show (96 : Int32) ≤ nI i from nI_le (a := 96) (by omega) (by omega)), it_end (by omega)]
  | k + 1, i, 0, M, h, hf => by omega
  | k + 1, i, f + 1, M, h, hf => by
    show (if (96 : Int32) ≤ nI i then fd_130_232 1000 0 M else (if nI i < 0 ∨ 96 ≤ (nI i).toNatClampNeg then none else fd_130_211 f (nI i + 1) (ds_w M 99 (nI i).toNatClampNeg (-1)))) = _
    rw [if_neg (show ¬ (96 : Int32) ≤ nI i from pu_ge (n := 96) (by omega) (by decide)), if_neg (pu_in (by omega) (by decide)), pu_cl (by omega), nI_1, it_211 k (i + 1) f _ (by omega) (by omega), it_set (by omega)]
theorem it_190 : ∀ (k i f : Nat) (M : am_M), i + k = 16 → k < f → fd_130_190 f (nI i) M = fd_130_211 1000 0 (am_set M 97 (fun j => if i ≤ j ∧ j < 16 then (-1 : Int32) else M 97 j))
  | 0, i, 0, M, h, hf => by omega
  | 0, i, f + 1, M, h, hf => by
    show (if (16 : Int32) ≤ nI i then fd_130_211 1000 0 M else (if nI i < 0 ∨ 16 ≤ (nI i).toNatClampNeg then none else fd_130_190 f (nI i + 1) (ds_w M 97 (nI i).toNatClampNeg (-1)))) = _
    rw [if_pos (show (16 : Int32) ≤ nI i from nI_le (a := 16) (by omega) (by omega)), it_end (by omega)]
  | k + 1, i, 0, M, h, hf => by omega
  | k + 1, i, f + 1, M, h, hf => by
    show (if (16 : Int32) ≤ nI i then fd_130_211 1000 0 M else (if nI i < 0 ∨ 16 ≤ (nI i).toNatClampNeg then none else fd_130_190 f (nI i + 1) (ds_w M 97 (nI i).toNatClampNeg (-1)))) = _
    rw [if_neg (show ¬ (16 : Int32) ≤ nI i from pu_ge (n := 16) (by omega) (by decide)), if_neg (pu_in (by omega) (by decide)), pu_cl (by omega), nI_1, it_190 k (i + 1) f _ (by omega) (by omega), it_set (by omega)]
/-- the memory behind the reference's constructor -/
theorem it_185 (y : Int32) (M : am_M) : ∃ M2, fd_130_185 y M = some M2 ∧ M2 96 = upd (M 96) 0 y ∧ (∀ j, j < 16 → M2 97 j = -1) ∧ (∀ j, j < 96 → M2 99 j = -1) ∧ (∀ j, j < 24 → M2 101 j = -1) ∧ ∀ k, k ≠ 96 → k ≠ 97 → k ≠ 99 → k ≠ 101 → M2 k = M k := by
  unfold fd_130_185
  rw [show (0 : Int32) = nI 0 from rfl, it_190 16 0 1000 _ rfl (by decide), show (0 : Int32) = nI 0 from rfl, it_211 96 0 1000 _ rfl (by decide), show (0 : Int32) = nI 0 from rfl, it_232 24 0 1000 _ rfl (by decide)]
  refine ⟨_, rfl, ?_, ?_, ?_, ?_, ?_⟩
  · rw [am_set_n _ _ (by decide), am_set_n _ _ (by decide), am_set_n _ _ (by decide), ds_w, am_set_s]
  · intro j hj
    rw [am_set_n _ _ (by decide), am_set_n _ _ (by decide), am_set_s, if_pos (by omega)]
  · intro j hj
    rw [am_set_n _ _ (by decide), am_set_s, if_pos (by omega)]
  · intro j hj
    rw [am_set_s, if_pos (by omega)]
  · intro k h1 h2 h3 h4
    rw [am_set_n _ _ h4, am_set_n _ _ h3, am_set_n _ _ h2, ds_w, am_set_n _ _ h1]
