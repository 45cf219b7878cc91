/-! What changes counts -/
/-- what is asked of one object o with owner a -/
def ct_k (ct : Nat → Nat → Int) (q : ct_Q) (m d : Nat) (pd : Nat → Bool) (o a : Nat) : Prop := a < 4 ∧ (∀ b, b < 4 → 0 ≤ ct b o) ∧
    ct a o + ct_sum (ct_d q a o) m - (if d = a ∧ pd o = true then 1 else 0) = ct_s ct a o + ct_sum (ct_o q a o) m + (if d ≠ a ∧ pd o = true then 1 else 0) ∧
    (∀ j, j < m → ct_c q a o j → 1 ≤ ct a o + ct_sum (ct_d q a o) j) ∧
    (d = a → pd o = true → 1 ≤ ct a o + ct_sum (ct_d q a o) m)
def ct_ap (q : ct_Q) (m : Nat) (x : Nat × Nat × Nat × Int × (Nat → Bool)) : ct_Q := fun i => if i = m then x else q i
def ct_rm (q : ct_Q) (r : Nat) : ct_Q := fun i => if i < r then q i else q (i + 1)
theorem ct_ap_n {q : ct_Q} {m i : Nat} {x : Nat × Nat × Nat × Int × (Nat → Bool)} (h : i ≠ m) : ct_ap q m x i = q i := if_neg h
theorem ct_ap_s {q : ct_Q} {m : Nat} {x : Nat × Nat × Nat × Int × (Nat → Bool)} : ct_ap q m x m = x := if_pos rfl
section
variable {ow ow' : Nat → Option Nat} {ct ct' : Nat → Nat → Int} {q q' : ct_Q} {m d : Nat} {pd pd' : Nat → Bool}
theorem ct_d_eq {a o i j : Nat} (h : q' i = q j) : ct_d q' a o i = ct_d q a o j := by unfold ct_d; rw [h]
theorem ct_o_eq {a o i j : Nat} (h : q' i = q j) : ct_o q' a o i = ct_o q a o j := by unfold ct_o; rw [h]
theorem ct_c_eq {a o i j : Nat} (h : q' i = q j) : ct_c q' a o i ↔ ct_c q a o j := by unfold ct_c; rw [h]
theorem ct_dsum {a o j : Nat} (h : ∀ i, i < j → q' i = q i) : ct_sum (ct_d q' a o) j = ct_sum (ct_d q a o) j := ct_sum_eq (fun i hi => ct_d_eq (h i hi))
theorem ct_osum {a o j : Nat} (h : ∀ i, i < j → q' i = q i) : ct_sum (ct_o q' a o) j = ct_sum (ct_o q a o) j := ct_sum_eq (fun i hi => ct_o_eq (h i hi))
/-- a message that isn't about o goes in -/
theorem ct_k_ap {o a : Nat} {x : Nat × Nat × Nat × Int × (Nat → Bool)} (H : ct_k ct q m d pd o a) (hx : x.1 ≠ 0 ∧ x.2.2.1 ≠ o ∨ x.1 = 0 ∧ x.2.2.2.2 o = false) : ct_k ct (ct_ap q m x) (m + 1) d pd o a := by
  obtain ⟨h0, h1, h2, h3, h4⟩ := H
  have hq : ∀ j, j ≤ m → ∀ i, i < j → ct_ap q m x i = q i := fun j hj i hi => ct_ap_n (by omega)
  have nc : ¬ ct_c (ct_ap q m x) a o m := by
    unfold ct_c; rw [ct_ap_s]; rintro ⟨_, ⟨h, h'⟩ | ⟨h, h'⟩⟩
    · rcases hx with ⟨h1, _⟩ | ⟨_, h2⟩
      · exact h1 h
      · rw [h2] at h'; cases h'
    · rcases hx with ⟨_, h1⟩ | ⟨h1, _⟩
      · exact h1 h'
      · exact h h1
  have no : ct_o (ct_ap q m x) a o m = 0 := by
    unfold ct_o; rw [ct_ap_s, if_neg]
    rintro ⟨_, h, h'⟩
    rcases hx with ⟨h1, _⟩ | ⟨_, h2⟩
    · exact h1 h
    · rw [h2] at h'; cases h'
  have e1 : ct_sum (ct_d (ct_ap q m x) a o) (m + 1) = ct_sum (ct_d q a o) m := by rw [ct_sum, ct_dsum (hq m (Nat.le_refl _)), ct_d_c nc]; omega
  have e2 : ct_sum (ct_o (ct_ap q m x) a o) (m + 1) = ct_sum (ct_o q a o) m := by rw [ct_sum, ct_osum (hq m (Nat.le_refl _)), no]; omega
  refine ⟨h0, h1, by rw [e1, e2]; exact h2, fun j hj hc => ?_, by rw [e1]; exact h4⟩
  by_cases e : j = m
  · subst e; exact absurd hc nc
  · rw [ct_dsum (hq j (by omega))]
    exact h3 j (by omega) ((ct_c_eq (ct_ap_n e)).mp hc)
/-- other counts for o stay, so does what waits for o -/
theorem ct_k_eq {o a : Nat} (H : ct_k ct q m d pd o a) (hc : ∀ b, b < 4 → ct' b o = ct b o) (hp : pd' o = pd o) : ct_k ct' q m d pd' o a := by
  obtain ⟨h0, h1, h2, h3, h4⟩ := H
  unfold ct_k
  rw [hc a h0, ct_s_eq (fun b hb _ => hc b hb), hp]
  exact ⟨h0, fun b hb => by rw [hc b hb]; exact h1 b hb, h2, h3, h4⟩
theorem ct_I_d (d' : Nat) (H : ct_I ow ct q m d (fun _ => false)) : ct_I ow ct q m d' (fun _ => false) := by
  refine ⟨fun o a ho ha => ?_, H.2⟩
  obtain ⟨h0, h1, h2, h3, h4⟩ := H.1 o a ho ha
  exact ⟨h0, h1, by simpa using h2, h3, fun _ h => by cases h⟩
/-- the call that waited goes in -/
theorem ct_I_call {x : Nat × Nat × Nat × Int × (Nat → Bool)} (H : ct_I ow ct q m d pd) (h0 : x.1 = 0) (h1 : x.2.1 = d) (h2 : x.2.2.2.2 = pd) : ct_I ow ct (ct_ap q m x) (m + 1) d (fun _ => false) := by
  have hq : ∀ j, j ≤ m → ∀ i, i < j → ct_ap q m x i = q i := fun j hj i hi => ct_ap_n (by omega)
  refine ⟨fun o a ho ha => ?_, fun i hi hk => ?_, fun i o hi hk ho hc => ?_, fun o _ h => by cases h⟩
  · obtain ⟨g0, g1, g2, g3, g4⟩ := H.1 o a ho ha
    have e1 : ct_sum (ct_d (ct_ap q m x) a o) (m + 1) = ct_sum (ct_d q a o) m - (if d = a ∧ pd o = true then 1 else 0) := by
      rw [ct_sum, ct_dsum (hq m (Nat.le_refl _))]
      unfold ct_d; rw [ct_ap_s, h1, h0, h2]
      by_cases e : d = a
      · by_cases e' : pd o = true
        · simp [e, e']; omega
        · simp [e, e']
      · simp [e]
    have e2 : ct_sum (ct_o (ct_ap q m x) a o) (m + 1) = ct_sum (ct_o q a o) m + (if d ≠ a ∧ pd o = true then 1 else 0) := by
      rw [ct_sum, ct_osum (hq m (Nat.le_refl _))]
      unfold ct_o; rw [ct_ap_s, h1, h0, h2]
      simp
    refine ⟨g0, g1, ?_, fun j hj hc => ?_, fun _ h => by cases h⟩
    · rw [e1, e2]; simp only [Bool.false_eq_true, and_false, if_false]; omega
    · by_cases e : j = m
      · subst e
        rw [ct_dsum (hq j (Nat.le_refl _))]
        unfold ct_c at hc; rw [ct_ap_s, h1, h0, h2] at hc
        refine g4 hc.1 ?_
        rcases hc.2 with h | h
        · exact h.2
        · exact absurd rfl h.1
      · rw [ct_dsum (hq j (by omega))]
        exact g3 j (by omega) ((ct_c_eq (ct_ap_n e)).mp hc)
  · by_cases e : i = m
    · subst e; rw [ct_ap_s] at hk; exact absurd h0 hk
    · rw [ct_ap_n e] at hk ⊢; exact H.2.1 i (by omega) hk
  · by_cases e : i = m
    · subst e; rw [ct_ap_s, h2] at hc; exact H.2.2.2 o ho hc
    · rw [ct_ap_n e] at hk hc; exact H.2.2.1 i o (by omega) hk ho hc
/-- actor b pays for the object u, which it owns or has a count for -/
theorem ct_I_pay {b u : Nat} (hb : b < 4) (hu : u < 16) (H : ct_I ow ct q m d pd) (hp : pd u = false) (hp' : pd' u = true) (hpn : ∀ o, o ≠ u → pd' o = pd o) (hcn : ∀ c o, ¬ (c = b ∧ o = u) → ct' c o = ct c o) (hw : (ow u = some b ∧ ct' b u = ct b u + 1) ∨ (ow u ≠ some b ∧ ow u ≠ none ∧ 2 ≤ ct b u ∧ ct' b u = ct b u - 1)) : ct_I ow ct' q m d pd' := by
  refine ⟨fun o a ho ha => ?_, H.2.1, H.2.2.1, fun o ho h => ?_⟩
  · by_cases e : o = u
    · subst e
      obtain ⟨g0, g1, g2, g3, g4⟩ := H.1 o a ho ha
      rw [if_neg (by simp [hp]), if_neg (by simp [hp])] at g2
      rcases hw with ⟨w1, w2⟩ | ⟨w1, _, w2, w3⟩
      · have eab : a = b := by rw [ha] at w1; injection w1
        subst eab
        have hs : ct_s ct' a o = ct_s ct a o := ct_s_eq (fun c _ hc => hcn c o (fun h => hc h.1))
        refine ⟨g0, fun c hc => ?_, ?_, fun j hj hc => ?_, fun _ _ => ?_⟩
        · by_cases e : c = a
          · subst e; rw [w2]; have := g1 c hc; omega
          · rw [hcn c o (fun h => e h.1)]; exact g1 c hc
        · rw [w2, hs, hp']
          by_cases e : d = a
          · simp [e]; omega
          · simp [e]; omega
        · rw [w2]; have := g3 j hj hc; omega
        · rw [w2]; have := ct_pre H ho ha m (Nat.le_refl _); omega
      · have eab : a ≠ b := by intro e; subst e; exact w1 ha
        have hs : ct_s ct' a o = ct_s ct a o + (-1) := ct_s_up (b := b) hb (fun e => eab e.symm) (by omega) (fun c _ hc => hcn c o (fun h => hc h.1))
        have e0 : ct' a o = ct a o := hcn a o (fun h => eab h.1)
        refine ⟨g0, fun c hc => ?_, ?_, fun j hj hc => ?_, fun hd _ => ?_⟩
        · by_cases e : c = b
          · subst e; omega
          · rw [hcn c o (fun h => e h.1)]; exact g1 c hc
        · rw [e0, hs, hp']
          by_cases e : d = a
          · simp [e]; omega
          · simp [e]; omega
        · rw [e0]; exact g3 j hj hc
        · rw [e0]
          have h1 := ct_sum_pos (n := m) (fun i _ => ct_o_pos q a o i)
          have h2 : ct b o ≤ ct_s ct a o := by
            have h3 : 0 ≤ ct_s (fun c o' => if c = b then 0 else ct c o') a o := ct_s_pos (fun c hc => by
              by_cases e : c = b
              · simp [e]
              · simp [e]; exact g1 c hc)
            have h4 := ct_s_up (ct := ct) (ct' := fun c o' => if c = b then 0 else ct c o') (a := a) (o := o) (b := b) (v := - ct b o) hb (fun e => eab e.symm) (by simp; omega) (fun c _ hc => by simp [hc])
            omega
          omega
    · refine ct_k_eq (H.1 o a ho ha) (fun c _ => hcn c o (fun h => e h.2)) (hpn o e)
  · by_cases e : o = u
    · subst e; rcases hw with ⟨w, _⟩ | ⟨_, w, _⟩
      · rw [w]; simp
      · exact w
    · rw [hpn o e] at h; exact H.2.2.2 o ho h
/-- the same, with a raise -/
theorem ct_I_raise {b u a0 : Nat} {x : Nat × Nat × Nat × Int × (Nat → Bool)} (hb : b < 4) (hu : u < 16) (H : ct_I ow ct q m d pd) (hp : pd u = false) (hp' : pd' u = true) (hpn : ∀ o, o ≠ u → pd' o = pd o) (hcn : ∀ c o, ¬ (c = b ∧ o = u) → ct' c o = ct c o) (ha0 : ow u = some a0) (hab : a0 ≠ b) (h1 : 1 ≤ ct b u) (hc : ct' b u = ct b u + 7) (x0 : x.1 = 1) (x1 : x.2.1 = a0) (x2 : x.2.2.1 = u) (x3 : x.2.2.2.1 = 8) : ct_I ow ct' (ct_ap q m x) (m + 1) d pd' := by
  have hq : ∀ j, j ≤ m → ∀ i, i < j → ct_ap q m x i = q i := fun j hj i hi => ct_ap_n (by omega)
  refine ⟨fun o a ho ha => ?_, fun i hi hk => ?_, fun i o hi hk ho hc' => ?_, fun o ho h => ?_⟩
  · by_cases e : o = u
    · subst e
      have e2 : a0 = a := by rw [ha] at ha0; injection ha0 with h; exact h.symm
      subst e2
      obtain ⟨g0, g1, g2, g3, g4⟩ := H.1 o a0 ho ha
      rw [if_neg (by simp [hp]), if_neg (by simp [hp])] at g2
      have hs : ct_s ct' a0 o = ct_s ct a0 o + 7 := ct_s_up (b := b) hb (fun e => hab e.symm) (by omega) (fun c _ hc => hcn c o (fun h => hc h.1))
      have e0 : ct' a0 o = ct a0 o := hcn a0 o (fun h => hab h.1)
      have e1 : ct_sum (ct_d (ct_ap q m x) a0 o) (m + 1) = ct_sum (ct_d q a0 o) m + 8 := by
        rw [ct_sum, ct_dsum (hq m (Nat.le_refl _))]
        unfold ct_d; rw [ct_ap_s, x1, x0, x2, x3]; simp
      have e3 : ct_sum (ct_o (ct_ap q m x) a0 o) (m + 1) = ct_sum (ct_o q a0 o) m := by
        rw [ct_sum, ct_osum (hq m (Nat.le_refl _))]
        unfold ct_o; rw [ct_ap_s, x1, x0]; simp
      have hpre := ct_pre H ho ha m (Nat.le_refl _)
      have hlow : 1 ≤ ct a0 o + ct_sum (ct_d q a0 o) m := by
        have h1' := ct_sum_pos (n := m) (fun i _ => ct_o_pos q a0 o i)
        have h2 : ct b o ≤ ct_s ct a0 o := by
          have h3 : 0 ≤ ct_s (fun c o' => if c = b then 0 else ct c o') a0 o := ct_s_pos (fun c hc => by
            by_cases e : c = b
            · simp [e]
            · simp [e]; exact g1 c hc)
          have h4 := ct_s_up (ct := ct) (ct' := fun c o' => if c = b then 0 else ct c o') (a := a0) (o := o) (b := b) (v := - ct b o) hb (fun e => hab e.symm) (by simp; omega) (fun c _ hc => by simp [hc])
          omega
        omega
      refine ⟨g0, fun c hc2 => ?_, ?_, fun j hj hc2 => ?_, fun _ _ => ?_⟩
      · by_cases e : c = b
        · subst e; omega
        · rw [hcn c o (fun h => e h.1)]; exact g1 c hc2
      · rw [e0, e1, e3, hs, hp']
        by_cases e : d = a0
        · simp [e]; omega
        · simp [e]; omega
      · rw [e0]
        by_cases e : j = m
        · subst e; rw [ct_dsum (hq j (Nat.le_refl _))]; exact hlow
        · rw [ct_dsum (hq j (by omega))]
          exact g3 j (by omega) ((ct_c_eq (ct_ap_n e)).mp hc2)
      · rw [e0, e1]; omega
    · refine ct_k_eq (ct_k_ap (H.1 o a ho ha) (Or.inl ⟨by omega, by rw [x2]; exact fun h => e h.symm⟩)) (fun c _ => hcn c o (fun h => e h.2)) (hpn o e)
  · by_cases e : i = m
    · subst e; rw [ct_ap_s, x2, x1]; exact ⟨hu, ha0⟩
    · rw [ct_ap_n e] at hk ⊢; exact H.2.1 i (by omega) hk
  · by_cases e : i = m
    · subst e; rw [ct_ap_s] at hk; omega
    · rw [ct_ap_n e] at hk hc'; exact H.2.2.1 i o (by omega) hk ho hc'
  · by_cases e : o = u
    · subst e; rw [ha0]; simp
    · rw [hpn o e] at h; exact H.2.2.2 o ho h
end
