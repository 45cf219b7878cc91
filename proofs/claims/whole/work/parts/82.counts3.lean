/-! A message is taken; counts are given back; objects come and go -/
section
variable {ow ow' : Nat → Option Nat} {ct ct' : Nat → Nat → Int} {q q' : ct_Q} {m d r : Nat} {pd pd' : Nat → Bool}
theorem ct_rm_lt {i : Nat} (h : i < r) : ct_rm q r i = q i := if_pos h
theorem ct_rm_ge {i : Nat} (h : r ≤ i) : ct_rm q r i = q (i + 1) := if_neg (by omega)
theorem ct_rm_d (a o : Nat) (hr : r < m) : ct_sum (ct_d (ct_rm q r) a o) (m - 1) = ct_sum (ct_d q a o) m - ct_d q a o r := by
  rw [← ct_sum_rm hr]
  refine ct_sum_eq (fun i hi => ?_)
  by_cases e : i < r
  · rw [if_pos e]; exact ct_d_eq (ct_rm_lt e)
  · rw [if_neg e]; exact ct_d_eq (ct_rm_ge (by omega))
theorem ct_rm_o (a o : Nat) (hr : r < m) : ct_sum (ct_o (ct_rm q r) a o) (m - 1) = ct_sum (ct_o q a o) m - ct_o q a o r := by
  rw [← ct_sum_rm hr]
  refine ct_sum_eq (fun i hi => ?_)
  by_cases e : i < r
  · rw [if_pos e]; exact ct_o_eq (ct_rm_lt e)
  · rw [if_neg e]; exact ct_o_eq (ct_rm_ge (by omega))
/-- sums up to j, j behind the place that was left out -/
theorem ct_rm_dj (a o j : Nat) (hj : r ≤ j) : ct_sum (ct_d (ct_rm q r) a o) j = ct_sum (ct_d q a o) (j + 1) - ct_d q a o r := ct_rm_d (m := j + 1) a o (by omega)
/-- the front message of a's queue is taken: o's owner is a -/
theorem ct_k_own {o a : Nat} (hr : r < m) (hf : ∀ i, i < r → (q i).2.1 ≠ a) (H : ct_I ow ct q m d (fun _ => false)) (ho : o < 16) (ha : ow o = some a) (hw : (q r).2.1 = a) (hc : ct' a o = ct a o + ct_d q a o r) (hn : ∀ c, c < 4 → c ≠ a → ct' c o = ct c o) : ct_k ct' (ct_rm q r) (m - 1) d (fun _ => false) o a := by
  obtain ⟨g0, g1, g2, g3, g4⟩ := H.1 o a ho ha
  have z : ∀ i, i < r → ct_d q a o i = 0 := fun i hi => ct_d_c (fun h => hf i hi h.1)
  have oz : ct_o q a o r = 0 := by unfold ct_o; rw [if_neg]; rintro ⟨h, _⟩; exact h hw
  have sr : ct_sum (ct_d q a o) r = 0 := ct_sum_0 z
  have pr := ct_pre H ho ha (r + 1) (by omega)
  rw [ct_sum, sr] at pr
  refine ⟨g0, fun c hc4 => ?_, ?_, fun j hj hc' => ?_, fun _ h => by cases h⟩
  · by_cases e : c = a
    · subst e; rw [hc]; omega
    · rw [hn c hc4 e]; exact g1 c hc4
  · rw [ct_rm_d a o hr, ct_rm_o a o hr, oz, hc, ct_s_eq hn]
    simp at g2 ⊢; omega
  · by_cases e : j < r
    · have := (ct_c_eq (ct_rm_lt (q := q) e)).mp hc'
      exact absurd this.1 (hf j e)
    · have := g3 (j + 1) (by omega) ((ct_c_eq (ct_rm_ge (q := q) (by omega))).mp hc')
      rw [ct_rm_dj a o j (by omega), hc]; omega
/-- o's owner is another -/
theorem ct_k_oth {o a b : Nat} (hb : b < 4) (hr : r < m) (H : ct_I ow ct q m d (fun _ => false)) (ho : o < 16) (ha : ow o = some a) (hab : a ≠ b) (hw : (q r).2.1 = b) (hc : ct' b o = ct b o + ct_o q a o r) (hn : ∀ c, c < 4 → c ≠ b → ct' c o = ct c o) : ct_k ct' (ct_rm q r) (m - 1) d (fun _ => false) o a := by
  obtain ⟨g0, g1, g2, g3, g4⟩ := H.1 o a ho ha
  have z : ct_d q a o r = 0 := by unfold ct_d; rw [if_neg]; rw [hw]; exact fun h => hab h.symm
  have e0 : ct' a o = ct a o := hn a g0 hab
  refine ⟨g0, fun c hc4 => ?_, ?_, fun j hj hc' => ?_, fun _ h => by cases h⟩
  · by_cases e : c = b
    · subst e; rw [hc]; have := g1 c hc4; have := ct_o_pos q a o r; omega
    · rw [hn c hc4 e]; exact g1 c hc4
  · rw [ct_rm_d a o hr, ct_rm_o a o hr, z, e0, ct_s_up hb (fun e => hab e.symm) hc hn]
    simp at g2 ⊢; omega
  · rw [e0]
    by_cases e : j < r
    · have := g3 j (by omega) ((ct_c_eq (ct_rm_lt (q := q) e)).mp hc')
      rw [ct_dsum (fun i hi => ct_rm_lt (by omega))]; exact this
    · have := g3 (j + 1) (by omega) ((ct_c_eq (ct_rm_ge (q := q) (by omega))).mp hc')
      rw [ct_rm_dj a o j (by omega), z]; omega
theorem ct_rm_rest (hr : r < m) (H : ct_I ow ct q m d (fun _ => false)) : (∀ i, i < m - 1 → (ct_rm q r i).1 ≠ 0 → (ct_rm q r i).2.2.1 < 16 ∧ ow (ct_rm q r i).2.2.1 = some (ct_rm q r i).2.1) ∧ (∀ i o, i < m - 1 → (ct_rm q r i).1 = 0 → o < 16 → (ct_rm q r i).2.2.2.2 o = true → ow o ≠ none) := by
  refine ⟨fun i hi hk => ?_, fun i o hi hk ho hc => ?_⟩
  · by_cases e : i < r
    · rw [ct_rm_lt e] at hk ⊢; exact H.2.1 i (by omega) hk
    · rw [ct_rm_ge (by omega)] at hk ⊢; exact H.2.1 (i + 1) (by omega) hk
  · by_cases e : i < r
    · rw [ct_rm_lt e] at hk hc; exact H.2.2.1 i o (by omega) hk ho hc
    · rw [ct_rm_ge (by omega)] at hk hc; exact H.2.2.1 (i + 1) o (by omega) hk ho hc
/-- a raise or a lower is taken -/
theorem ct_I_rl {a : Nat} (ha4 : a < 4) (hr : r < m) (hf : ∀ i, i < r → (q i).2.1 ≠ a) (hw : (q r).2.1 = a) (hk : (q r).1 ≠ 0) (H : ct_I ow ct q m d (fun _ => false)) (hc : ct' a (q r).2.2.1 = ct a (q r).2.2.1 + (if (q r).1 = 1 then (q r).2.2.2.1 else - (q r).2.2.2.1)) (hn : ∀ c o, ¬ (c = a ∧ o = (q r).2.2.1) → ct' c o = ct c o) : ct_I ow ct' (ct_rm q r) (m - 1) d (fun _ => false) := by
  have R := ct_rm_rest hr H
  refine ⟨fun o b ho hb => ?_, R.1, R.2, fun o _ h => by cases h⟩
  by_cases e : b = a
  · subst e
    refine ct_k_own hr hf H ho hb hw ?_ (fun c _ hc' => hn c o (fun h => hc' h.1))
    by_cases e : o = (q r).2.2.1
    · subst e; rw [hc]; unfold ct_d; rw [if_pos hw, if_neg hk, if_pos rfl]
    · rw [hn b o (fun h => e h.2), ct_d_c]
      · omega
      · rintro ⟨_, ⟨h, _⟩ | ⟨_, h⟩⟩
        · exact hk h
        · exact e h.symm
  · have ne : o ≠ (q r).2.2.1 := by
      intro h
      have := (H.2.1 r hr hk).2
      rw [← h, hb, hw] at this; injection this with this; exact e this
    refine ct_k_oth ha4 hr H ho hb e hw ?_ (fun c _ hc' => hn c o (fun h => hc' h.1))
    rw [hn a o (fun h => ne h.2)]
    unfold ct_o; rw [if_neg]
    · omega
    · rintro ⟨_, h, _⟩; exact hk h
/-- a call is taken -/
theorem ct_I_tk {a : Nat} (ha4 : a < 4) (hr : r < m) (hf : ∀ i, i < r → (q i).2.1 ≠ a) (hw : (q r).2.1 = a) (hk : (q r).1 = 0) (H : ct_I ow ct q m d (fun _ => false)) (hc : ∀ o, o < 16 → ct' a o = ct a o + (if (q r).2.2.2.2 o = true then (if ow o = some a then -1 else 1) else 0)) (hn : ∀ c o, o < 16 → c ≠ a → ct' c o = ct c o) : ct_I ow ct' (ct_rm q r) (m - 1) d (fun _ => false) := by
  have R := ct_rm_rest hr H
  refine ⟨fun o b ho hb => ?_, R.1, R.2, fun o _ h => by cases h⟩
  by_cases e : b = a
  · subst e
    refine ct_k_own hr hf H ho hb hw ?_ (fun c _ hc' => hn c o ho hc')
    rw [hc o ho, hb]; unfold ct_d; rw [if_pos hw, if_pos hk, if_pos rfl]
  · refine ct_k_oth ha4 hr H ho hb e hw ?_ (fun c _ hc' => hn c o ho hc')
    rw [hc o ho, hb]; unfold ct_o
    rw [hw]
    have : ¬ (some b = some a) := by intro h; injection h with h; exact e h
    rw [if_neg this]
    by_cases e3 : (q r).2.2.2.2 o = true
    · rw [if_pos e3, if_pos ⟨fun h => e h.symm, hk, e3⟩]
    · rw [if_neg e3, if_neg (fun h => e3 h.2.2)]
/-- b gives back what count it has for u -/
theorem ct_I_low {b u a0 : Nat} {x : Nat × Nat × Nat × Int × (Nat → Bool)} (hb : b < 4) (hu : u < 16) (H : ct_I ow ct q m d (fun _ => false)) (hcn : ∀ c o, ¬ (c = b ∧ o = u) → ct' c o = ct c o) (ha0 : ow u = some a0) (hab : a0 ≠ b) (h1 : ct b u ≠ 0) (hc : ct' b u = 0) (x0 : x.1 = 2) (x1 : x.2.1 = a0) (x2 : x.2.2.1 = u) (x3 : x.2.2.2.1 = ct b u) : ct_I ow ct' (ct_ap q m x) (m + 1) d (fun _ => false) := by
  have hq : ∀ j, j ≤ m → ∀ i, i < j → ct_ap q m x i = q i := fun j hj i hi => ct_ap_n (by omega)
  refine ⟨fun o a ho ha => ?_, fun i hi hk => ?_, fun i o hi hk ho hc' => ?_, fun o _ h => by cases h⟩
  · by_cases e : o = u
    · subst e
      have e2 : a0 = a := by rw [ha] at ha0; injection ha0 with h; exact h.symm
      subst e2
      obtain ⟨g0, g1, g2, g3, g4⟩ := H.1 o a0 ho ha
      have hs : ct_s ct' a0 o = ct_s ct a0 o + (- ct b o) := ct_s_up (b := b) hb (fun e => hab e.symm) (by omega) (fun c _ hc => hcn c o (fun h => hc h.1))
      have e0 : ct' a0 o = ct a0 o := hcn a0 o (fun h => hab h.1)
      have e1 : ct_sum (ct_d (ct_ap q m x) a0 o) (m + 1) = ct_sum (ct_d q a0 o) m - ct b o := by
        rw [ct_sum, ct_dsum (hq m (Nat.le_refl _))]
        unfold ct_d; rw [ct_ap_s, x1, x0, x2, x3]; simp; omega
      have e3 : ct_sum (ct_o (ct_ap q m x) a0 o) (m + 1) = ct_sum (ct_o q a0 o) m := by
        rw [ct_sum, ct_osum (hq m (Nat.le_refl _))]
        unfold ct_o; rw [ct_ap_s, x1, x0]; simp
      have hpos : 1 ≤ ct b o := by have := g1 b hb; omega
      have hlow : 1 ≤ ct a0 o + ct_sum (ct_d q a0 o) m := by
        have h1' := ct_sum_pos (n := m) (fun i _ => ct_o_pos q a0 o i)
        have h2 : ct b o ≤ ct_s ct a0 o := by
          have h3 : 0 ≤ ct_s (fun c o' => if c = b then 0 else ct c o') a0 o := ct_s_pos (fun c hc => by
            by_cases e : c = b
            · simp [e]
            · simp [e]; exact g1 c hc)
          have h4 := ct_s_up (ct := ct) (ct' := fun c o' => if c = b then 0 else ct c o') (a := a0) (o := o) (b := b) (v := - ct b o) hb (fun e => hab e.symm) (by simp; omega) (fun c _ hc => by simp [hc])
          omega
        simp at g2; omega
      refine ⟨g0, fun c hc2 => ?_, ?_, fun j hj hc2 => ?_, fun _ h => by cases h⟩
      · by_cases e : c = b
        · subst e; omega
        · rw [hcn c o (fun h => e h.1)]; exact g1 c hc2
      · rw [e0, e1, e3, hs]; simp at g2 ⊢; omega
      · rw [e0]
        by_cases e : j = m
        · subst e; rw [ct_dsum (hq j (Nat.le_refl _))]; exact hlow
        · rw [ct_dsum (hq j (by omega))]
          exact g3 j (by omega) ((ct_c_eq (ct_ap_n e)).mp hc2)
    · refine ct_k_eq (ct_k_ap (show ct_k ct q m d (fun _ => false) o a from H.1 o a ho ha) (x := x) (Or.inl ⟨by rw [x0]; decide, by rw [x2]; exact fun h => e h.symm⟩)) (fun c _ => hcn c o (fun h => e h.2)) (pd' := fun _ => false) rfl
  · by_cases e : i = m
    · subst e; rw [ct_ap_s, x2, x1]; exact ⟨hu, ha0⟩
    · rw [ct_ap_n e] at hk ⊢; exact H.2.1 i (by omega) hk
  · by_cases e : i = m
    · subst e; rw [ct_ap_s] at hk; omega
    · rw [ct_ap_n e] at hk hc'; exact H.2.2.1 i o (by omega) hk ho hc'
/-- an object is freed -/
theorem ct_I_free {u a : Nat} (hu : u < 16) (H : ct_I ow ct q m d (fun _ => false)) (ha : ow u = some a) (hz : ct a u = 0) (hu' : ow' u = none) (hn : ∀ o, o ≠ u → ow' o = ow o) : ct_I ow' ct q m d (fun _ => false) := by
  obtain ⟨z1, z2, z3⟩ := ct_zero H hu ha hz rfl
  refine ⟨fun o b ho hb => ?_, fun i hi hk => ?_, fun i o hi hk ho hc => ?_, fun o _ h => by cases h⟩
  · by_cases e : o = u
    · subst e; rw [hu'] at hb; cases hb
    · rw [hn o e] at hb; exact H.1 o b ho hb
  · have := H.2.1 i hi hk
    rw [hn _ (z3 i hi hk)]; exact this
  · by_cases e : o = u
    · subst e; rw [z2 i hi hk] at hc; cases hc
    · rw [hn o e]; exact H.2.2.1 i o hi hk ho hc
/-- an object is made -/
theorem ct_I_new {u a : Nat} (ha4 : a < 4) (H : ct_I ow ct q m d (fun _ => false)) (hu0 : ow u = none) (hu' : ow' u = some a) (hn : ∀ o, o ≠ u → ow' o = ow o) (hc : ∀ b, b < 4 → ct' b u = 0) (hcn : ∀ b o, o ≠ u → ct' b o = ct b o) : ct_I ow' ct' q m d (fun _ => false) := by
  refine ⟨fun o b ho hb => ?_, fun i hi hk => ?_, fun i o hi hk ho hcl => ?_, fun o _ h => by cases h⟩
  · by_cases e : o = u
    · subst e
      rw [hu'] at hb; injection hb with hb; subst hb
      have nc : ∀ i, i < m → ¬ ct_c q a o i := by
        rintro i hi ⟨_, ⟨h, h'⟩ | ⟨h, h'⟩⟩
        · exact H.2.2.1 i o hi h ho h' hu0
        · have := (H.2.1 i hi h).2; rw [h', hu0] at this; cases this
      have no : ∀ i, i < m → ct_o q a o i = 0 := by
        intro i hi; unfold ct_o; rw [if_neg]
        rintro ⟨_, h, h'⟩; exact H.2.2.1 i o hi h ho h' hu0
      have hs : ct_s ct' a o = 0 := ct_sum_0 (fun b hb => by by_cases e : b = a <;> simp [e, hc b hb])
      refine ⟨ha4, fun b hb => by rw [hc b hb]; exact Int.le_refl 0, ?_, fun j hj h => absurd h (nc j hj), fun _ h => by cases h⟩
      rw [hc a ha4, hs, ct_sum_0 (fun i hi => ct_d_c (nc i hi)), ct_sum_0 no]; simp
    · rw [hn o e] at hb
      exact ct_k_eq (show ct_k ct q m d (fun _ => false) o b from H.1 o b ho hb) (fun b' _ => hcn b' o e) (pd' := fun _ => false) rfl
  · have := H.2.1 i hi hk
    rw [hn]
    · exact this
    · intro e; rw [e, hu0] at this; cases this.2
  · by_cases e : o = u
    · subst e; rw [hu']; simp
    · rw [hn o e]; exact H.2.2.1 i o hi hk ho hcl
end
