/-! Pure: what the small functions answer -/
theorem pu_in {j n : Nat} (h : j < n) (hn : n < 1000) : ¬ (nI j < 0 ∨ n ≤ (nI j).toNatClampNeg) := nI_in h (by omega)
theorem pu_cl {j : Nat} (h : j < 1000) : (nI j).toNatClampNeg = j := nI_clamp (by omega)
theorem pu_lit (n : Nat) : (OfNat.ofNat n : Int32) = nI n := rfl
/-- a is the number of something of which there are n -/
def pu_is (a : Int32) (n : Nat) : Prop := ∃ j, j < n ∧ a = nI j
theorem pu_no {a : Int32} {n : Nat} (hn : n < 1000) (h : ¬ pu_is a n) : a < 0 ∨ nI n ≤ a := by
  rcases pk_ix a (n := n) (by omega) with q | q | q
  · exact Or.inl q
  · exact Or.inr q
  · exact absurd q h
theorem pu_ge {j n : Nat} (h : j < n) (hn : n < 1000) : ¬ nI n ≤ nI j := nI_ge h (by omega)
theorem pu_pos {j : Nat} (h : j < 1000) : ¬ nI j < 0 := nI_pos (by omega)
/-- Heap.exists -/
theorem sp_107 {j : Nat} (hj : j < 16) (M : am_M) : fd_107 (nI j) M = some (if M 80 j = -1 then 0 else 1, M) := by
  unfold fd_107
  rw [if_neg (pu_pos (by omega)), if_neg (show ¬ (16 : Int32) ≤ nI j from pu_ge (n := 16) hj (by decide)), if_neg (pu_in hj (by decide)), pu_cl (by omega)]
  split <;> rfl
theorem sp_107_no {a : Int32} (h : ¬ pu_is a 16) (M : am_M) : fd_107 a M = some (0, M) := by
  unfold fd_107
  rcases pu_no (by decide) h with q | q
  · rw [if_pos q]
  · by_cases h0 : a < 0
    · rw [if_pos h0]
    · rw [if_neg h0]
      exact if_pos q
/-- Heap.ownerOf, cellOf, countOf, heldBy -/
theorem sp_81 {j : Nat} (hj : j < 16) (M : am_M) : fd_81 (nI j) M = some (M 80 j, M) := by
  unfold fd_81
  rw [if_neg (pu_in hj (by decide)), pu_cl (by omega)]
theorem sp_97 {j : Nat} (hj : j < 16) (M : am_M) : fd_97 (nI j) M = some (M 81 j, M) := by
  unfold fd_97
  rw [if_neg (pu_in hj (by decide)), pu_cl (by omega)]
theorem pu_ma (a b c : Nat) : nI a * nI b + nI c = nI (a * b + c) := by rw [pk_mul, nI_add]
theorem sp_101 {a j : Nat} (ha : a < 4) (hj : j < 16) (M : am_M) : fd_101 (nI a) (nI j) M = some (M 83 (a * 16 + j), M) := by
  unfold fd_101
  rw [show (nI a * (16 : Int32) + nI j) = nI (a * 16 + j) from pu_ma a 16 j, if_neg (pu_in (n := 64) (by omega) (by decide)), pu_cl (by omega)]
theorem sp_79 {a j : Nat} (ha : a < 20) (hj : j < 6) (M : am_M) : fd_79 (nI a) (nI j) M = some (M 82 (a * 6 + j), M) := by
  unfold fd_79
  rw [show (nI a * (6 : Int32) + nI j) = nI (a * 6 + j) from pu_ma a 6 j, if_neg (pu_in (n := 120) (by omega) (by decide)), pu_cl (by omega)]
/-- isActor, of n actors -/
theorem sp_63 {a n : Nat} (hn : n ≤ 4) (ha : a < n) {M : am_M} (hM : M 0 0 = nI n) : fd_63 (nI a) M = some (1, M) := by
  unfold fd_63
  rw [if_neg (pu_pos (by omega)), hM, if_neg (pu_ge ha (by omega))]
theorem sp_63_no {a : Int32} {n : Nat} (hn : n ≤ 4) (h : ¬ pu_is a n) {M : am_M} (hM : M 0 0 = nI n) : fd_63 a M = some (0, M) := by
  unfold fd_63
  rw [hM]
  by_cases h0 : a < 0
  · rw [if_pos h0]
  · rw [if_neg h0, if_pos ((pu_no (by omega) h).resolve_left h0)]
/-- waiting's loop: how many of the places i .. n are a's -/
def pu_cnt (f : Nat → Int32) (a : Int32) : Nat → Nat → Nat
  | _, 0 => 0
  | i, k + 1 => (if f i = a then 1 else 0) + pu_cnt f a (i + 1) k
/-- Mail.sizeFor -/
theorem sp_111_4 {n : Nat} (hn : n ≤ 20) {M : am_M} (hM : M 84 4 = nI n) (a : Int32) : ∀ (k i c f : Nat), i + k = n → k < f → fd_111_4 f a (nI c) (nI i) M = some (nI (c + pu_cnt (M 86) a i k), M)
  | 0, i, c, 0, h, hf => by omega
  | 0, i, c, f + 1, h, hf => by
    show (if (M 84 4) ≤ nI i then _ else _) = _
    rw [hM, if_pos (nI_le (by omega) (by omega))]
    rfl
  | k + 1, i, c, 0, h, hf => by omega
  | k + 1, i, c, f + 1, h, hf => by
    have ih := fun c' => sp_111_4 hn hM a k (i + 1) c' f (by omega) (by omega)
    show (if (M 84 4) ≤ nI i then _ else (if nI i < 0 ∨ 20 ≤ (nI i).toNatClampNeg then none else if (M 86 (nI i).toNatClampNeg) = a then fd_111_4 f a (nI c + 1) (nI i + 1) M else fd_111_4 f a (nI c) (nI i + 1) M)) = _
    rw [hM, if_neg (nI_ge (by omega) (by omega)), if_neg (pu_in (by omega) (by decide)), pu_cl (by omega), nI_1, nI_1, ih, ih]
    by_cases hc : M 86 i = a
    · rw [if_pos hc, pu_cnt, if_pos hc]
      congr 3
      omega
    · rw [if_neg hc, pu_cnt, if_neg hc, Nat.zero_add]
theorem sp_111 {n : Nat} (hn : n ≤ 20) {M : am_M} (hM : M 84 4 = nI n) (a : Int32) : fd_111 a M = some (nI (pu_cnt (M 86) a 0 n), M) := by
  unfold fd_111
  have := sp_111_4 hn hM a n 0 0 1000 (by omega) (by omega)
  rw [Nat.zero_add] at this
  exact this
