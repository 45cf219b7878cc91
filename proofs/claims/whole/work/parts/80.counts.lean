/-! Counts: a message is (kind, whose, object, amount, closure); a call that isn't yet in a queue waits: d whose, pd its closure as far as it is paid -/
abbrev ct_Q : Type := Nat → Nat × Nat × Nat × Int × (Nat → Bool)
def ct_sum (f : Nat → Int) : Nat → Int
  | 0 => 0
  | n + 1 => ct_sum f n + f n
def ct_d (q : ct_Q) (a o i : Nat) : Int := if (q i).2.1 = a then (if (q i).1 = 0 then (if (q i).2.2.2.2 o = true then -1 else 0) else if (q i).2.2.1 = o then (if (q i).1 = 1 then (q i).2.2.2.1 else - (q i).2.2.2.1) else 0) else 0
def ct_c (q : ct_Q) (a o i : Nat) : Prop := (q i).2.1 = a ∧ ((q i).1 = 0 ∧ (q i).2.2.2.2 o = true ∨ (q i).1 ≠ 0 ∧ (q i).2.2.1 = o)
def ct_o (q : ct_Q) (a o i : Nat) : Int := if (q i).2.1 ≠ a ∧ (q i).1 = 0 ∧ (q i).2.2.2.2 o = true then 1 else 0
/-- the counts of the others -/
def ct_s (ct : Nat → Nat → Int) (a o : Nat) : Int := ct_sum (fun b => if b = a then 0 else ct b o) 4
def ct_I (ow : Nat → Option Nat) (ct : Nat → Nat → Int) (q : ct_Q) (m d : Nat) (pd : Nat → Bool) : Prop :=
  (∀ o a, o < 16 → ow o = some a → a < 4 ∧ (∀ b, b < 4 → 0 ≤ ct b o) ∧
    ct a o + ct_sum (ct_d q a o) m - (if d = a ∧ pd o = true then 1 else 0) = ct_s ct a o + ct_sum (ct_o q a o) m + (if d ≠ a ∧ pd o = true then 1 else 0) ∧
    (∀ j, j < m → ct_c q a o j → 1 ≤ ct a o + ct_sum (ct_d q a o) j) ∧
    (d = a → pd o = true → 1 ≤ ct a o + ct_sum (ct_d q a o) m)) ∧
  (∀ i, i < m → (q i).1 ≠ 0 → (q i).2.2.1 < 16 ∧ ow (q i).2.2.1 = some (q i).2.1) ∧
  (∀ i o, i < m → (q i).1 = 0 → o < 16 → (q i).2.2.2.2 o = true → ow o ≠ none) ∧
  ∀ o, o < 16 → pd o = true → ow o ≠ none
theorem ct_sum_eq {f g : Nat → Int} {n : Nat} (h : ∀ i, i < n → f i = g i) : ct_sum f n = ct_sum g n := by
  induction n with
  | zero => rfl
  | succ n ih => rw [ct_sum, ct_sum, ih (fun i hi => h i (by omega)), h n (by omega)]
theorem ct_sum_0 {f : Nat → Int} {n : Nat} (h : ∀ i, i < n → f i = 0) : ct_sum f n = 0 := by
  induction n with
  | zero => rfl
  | succ n ih => rw [ct_sum, ih (fun i hi => h i (by omega)), h n (by omega)]; rfl
theorem ct_sum_pos {f : Nat → Int} {n : Nat} (h : ∀ i, i < n → 0 ≤ f i) : 0 ≤ ct_sum f n := by
  induction n with
  | zero => exact Int.le_refl 0
  | succ n ih => rw [ct_sum]; have := ih (fun i hi => h i (by omega)); have := h n (by omega); omega
theorem ct_sum_z {f : Nat → Int} {n : Nat} (h : ∀ i, i < n → 0 ≤ f i) (hs : ct_sum f n = 0) : ∀ i, i < n → f i = 0 := by
  induction n with
  | zero => intro i hi; omega
  | succ n ih =>
    rw [ct_sum] at hs
    have h1 := ct_sum_pos (n := n) (fun i hi => h i (by omega))
    have h2 := h n (by omega)
    intro i hi
    by_cases e : i = n
    · subst e; omega
    · exact ih (fun i hi => h i (by omega)) (by omega) i (by omega)
/-- one left out -/
theorem ct_sum_rm {f : Nat → Int} {r n : Nat} (hr : r < n) : ct_sum (fun i => if i < r then f i else f (i + 1)) (n - 1) = ct_sum f n - f r := by
  obtain ⟨k, rfl⟩ : ∃ k, n = k + 1 := ⟨n - 1, by omega⟩
  rw [Nat.add_sub_cancel]
  induction k with
  | zero => obtain rfl : r = 0 := by omega
            simp [ct_sum]
  | succ k ih =>
    by_cases e : r = k + 1
    · subst e
      rw [ct_sum_eq (g := f) (fun i hi => if_pos hi)]
      have : ct_sum f (k + 1 + 1) = ct_sum f (k + 1) + f (k + 1) := rfl
      omega
    · have h1 := ih (by omega)
      have h2 : ct_sum (fun i => if i < r then f i else f (i + 1)) (k + 1) = ct_sum (fun i => if i < r then f i else f (i + 1)) k + (if k < r then f k else f (k + 1)) := rfl
      have h3 : ct_sum f (k + 1 + 1) = ct_sum f (k + 1) + f (k + 1) := rfl
      rw [if_neg (by omega)] at h2
      omega
theorem ct_d_c {q : ct_Q} {a o i : Nat} (h : ¬ ct_c q a o i) : ct_d q a o i = 0 := by
  unfold ct_d
  by_cases h1 : (q i).2.1 = a
  · rw [if_pos h1]
    by_cases h2 : (q i).1 = 0
    · rw [if_pos h2]
      by_cases h3 : (q i).2.2.2.2 o = true
      · exact absurd ⟨h1, Or.inl ⟨h2, h3⟩⟩ h
      · rw [if_neg h3]
    · rw [if_neg h2]
      by_cases h3 : (q i).2.2.1 = o
      · exact absurd ⟨h1, Or.inr ⟨h2, h3⟩⟩ h
      · rw [if_neg h3]
  · rw [if_neg h1]
theorem ct_o_pos (q : ct_Q) (a o i : Nat) : 0 ≤ ct_o q a o i := by unfold ct_o; split <;> omega
theorem ct_s_pos {ct : Nat → Nat → Int} {a o : Nat} (h : ∀ b, b < 4 → 0 ≤ ct b o) : 0 ≤ ct_s ct a o := by
  refine ct_sum_pos (fun b hb => ?_)
  by_cases e : b = a
  · rw [if_pos e]; exact Int.le_refl 0
  · rw [if_neg e]; exact h b hb
section
variable {ow ow' : Nat → Option Nat} {ct ct' : Nat → Nat → Int} {q q' : ct_Q} {m d : Nat} {pd pd' : Nat → Bool}
/-- the owner's count never falls below 0 -/
theorem ct_pre (H : ct_I ow ct q m d pd) {o a : Nat} (ho : o < 16) (ha : ow o = some a) : ∀ j, j ≤ m → 0 ≤ ct a o + ct_sum (ct_d q a o) j := by
  obtain ⟨_, h0, h1, h2, h3⟩ := H.1 o a ho ha
  have hs := ct_s_pos (a := a) h0
  have ho := ct_sum_pos (n := m) (fun i _ => ct_o_pos q a o i)
  have key : ∀ k j, j + k = m → 0 ≤ ct a o + ct_sum (ct_d q a o) j := by
    intro k
    induction k with
    | zero =>
      intro j hj
      obtain rfl : j = m := by omega
      by_cases e : d = a ∧ pd o = true
      · have := h3 e.1 e.2; omega
      · rw [if_neg e] at h1
        split at h1 <;> omega
    | succ k ih =>
      intro j hj
      have := ih (j + 1) (by omega)
      by_cases e : ct_c q a o j
      · have := h2 j (by omega) e; omega
      · rw [ct_sum, ct_d_c e] at this; omega
  intro j hj
  exact key (m - j) j (by omega)
/-- count 0: nothing is about it, and nobody has it -/
theorem ct_zero (H : ct_I ow ct q m d pd) {o a : Nat} (ho : o < 16) (ha : ow o = some a) (hz : ct a o = 0) (hp : pd o = false) : (∀ b, b < 4 → ct b o = 0) ∧ (∀ i, i < m → (q i).1 = 0 → (q i).2.2.2.2 o = false) ∧ ∀ i, i < m → (q i).1 ≠ 0 → (q i).2.2.1 ≠ o := by
  obtain ⟨_, h0, h1, h2, _⟩ := H.1 o a ho ha
  have nc : ∀ j, j < m → ¬ ct_c q a o j := by
    intro j
    induction j using Nat.strongRecOn with
    | ind j ih =>
      intro hj hc
      have := h2 j hj hc
      rw [ct_sum_0 (fun i hi => ct_d_c (ih i hi (by omega)))] at this
      omega
  have hd : ct_sum (ct_d q a o) m = 0 := ct_sum_0 (fun i hi => ct_d_c (nc i hi))
  have hs := ct_s_pos (a := a) h0
  have hp' := ct_sum_pos (n := m) (fun i _ => ct_o_pos q a o i)
  rw [hd, hz, if_neg (by simp [hp]), if_neg (by simp [hp])] at h1
  have hs0 : ct_s ct a o = 0 := by omega
  have ho0 : ct_sum (ct_o q a o) m = 0 := by omega
  refine ⟨fun b hb => ?_, fun i hi hk => ?_, fun i hi hk e => ?_⟩
  · by_cases e : b = a
    · rw [e, hz]
    · have := ct_sum_z (fun b hb => by
        by_cases e : b = a
        · rw [if_pos e]; exact Int.le_refl 0
        · rw [if_neg e]; exact h0 b hb) hs0 b hb
      rw [if_neg e] at this; exact this
  · have h := ct_sum_z (fun i _ => ct_o_pos q a o i) ho0 i hi
    have h' := nc i hi
    cases hq : (q i).2.2.2.2 o with
    | false => rfl
    | true =>
      unfold ct_o at h
      by_cases e : (q i).2.1 = a
      · exact absurd ⟨e, Or.inl ⟨hk, hq⟩⟩ h'
      · rw [if_pos ⟨e, hk, hq⟩] at h; omega
  · have := (H.2.1 i hi hk).2
    rw [e, ha] at this; injection this with this
    exact nc i hi ⟨this.symm, Or.inr ⟨hk, e⟩⟩
theorem ct_s_eq {a o : Nat} (h : ∀ b, b < 4 → b ≠ a → ct' b o = ct b o) : ct_s ct' a o = ct_s ct a o := by
  refine ct_sum_eq (fun b hb => ?_)
  by_cases e : b = a
  · rw [if_pos e, if_pos e]
  · rw [if_neg e, if_neg e, h b hb e]
/-- one of the others' counts changes -/
theorem ct_s_up {a o b : Nat} {v : Int} (hb : b < 4) (hab : b ≠ a) (hv : ct' b o = ct b o + v) (h : ∀ c, c < 4 → c ≠ b → ct' c o = ct c o) : ct_s ct' a o = ct_s ct a o + v := by
  have e : ∀ c, c < 4 → (if c = a then 0 else ct' c o) = (if c = a then 0 else ct c o) + (if c = b then v else 0) := by
    intro c hc
    by_cases e1 : c = a
    · rw [if_pos e1, if_pos e1, if_neg (by omega)]; rfl
    · rw [if_neg e1, if_neg e1]
      by_cases e2 : c = b
      · rw [if_pos e2, e2, hv]
      · rw [if_neg e2, h c hc e2]; omega
  unfold ct_s
  rw [ct_sum_eq e]
  simp only [ct_sum]
  have : (if 0 = b then v else 0) + (if 1 = b then v else 0) + (if 2 = b then v else 0) + (if 3 = b then v else 0) = v := by
    rcases (show b = 0 ∨ b = 1 ∨ b = 2 ∨ b = 3 by omega) with rfl | rfl | rfl | rfl <;> simp
  omega
end
