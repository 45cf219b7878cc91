/-! spread: seventeen times through all fields -/
theorem pu_d6 {a : Nat} (h : a < 1000) : nI a / (6 : Int32) = nI (a / 6) := pk_div (d := 6) (by omega) (by decide) (by decide)
theorem pu_m6 {a : Nat} (h : a < 1000) : nI a - nI (a / 6) * (6 : Int32) = nI (a % 6) := by
  rw [← pu_d6 h]; exact pk_rem (d := 6) (by omega) (by decide) (by decide)
section
variable {N M : am_M} {pl : Nat → Nat → Option Nat}
theorem ab_rt_1 {v : Option Nat} {c : Nat} {s : (Nat → Bool) × (Nat → Bool)} {o : Nat} : (s.1 o = true → (ab_rt v c s).1 o = true) ∧ (s.2 o = true → (ab_rt v c s).2 o = true) := by
  unfold ab_rt
  cases v with
  | none => exact ⟨id, id⟩
  | some t =>
    by_cases e : o = t
    · subst e; simp; intro h; exact Or.inl h
    · simp [e]
theorem ab_rt_2 {t c : Nat} {s : (Nat → Bool) × (Nat → Bool)} : (ab_rt (some t) c s).1 t = true ∧ (c < 5 → (ab_rt (some t) c s).2 t = true) := by
  unfold ab_rt; simp; intro h; exact Or.inr h
theorem ab_rt_3 {v : Option Nat} {c : Nat} {s : (Nat → Bool) × (Nat → Bool)} {I D : Nat → Prop} (h1 : ∀ o, s.1 o = true → I o) (h2 : ∀ o, s.2 o = true → D o) (hv : ∀ t, v = some t → I t ∧ (c < 5 → D t)) : (∀ o, (ab_rt v c s).1 o = true → I o) ∧ ∀ o, (ab_rt v c s).2 o = true → D o := by
  unfold ab_rt
  cases v with
  | none => exact ⟨h1, h2⟩
  | some t =>
    refine ⟨fun o h => ?_, fun o h => ?_⟩
    · by_cases e : o = t
      · rw [e]; exact (hv t rfl).1
      · simp [e] at h; exact h1 o h
    · by_cases e : o = t
      · subst e; simp at h
        rcases h with h | h
        · exact h2 o h
        · exact (hv o rfl).2 h
      · simp [e] at h; exact h2 o h
theorem rs_160_10 (hw : ∀ h k t, h < 20 → pl h k = some t → t < 16) (k2 : Int32 → am_M → Option am_M) (x1 : Int32) : ∀ (k j f : Nat) (N : am_M) (s : (Nat → Bool) × (Nat → Bool)), j + k = 96 → k < f → rf_wk N s.1 s.2 → rf_H N pl → ∃ (N' : am_M) (s' : (Nat → Bool) × (Nat → Bool)), fd_160_10 k2 f x1 (nI j) N = k2 (x1 + 1) N' ∧ rf_wk N' s'.1 s'.2 ∧ fr_ [112, 113] N N' ∧ (∀ o, (s.1 o = true → s'.1 o = true) ∧ (s.2 o = true → s'.2 o = true)) ∧ (∀ j', j ≤ j' → j' < 96 → s.2 (j' / 6) = true → ∀ u, pl (j' / 6) (j' % 6) = some u → s'.1 u = true ∧ (j' % 6 < 5 → s'.2 u = true)) ∧ ∀ I D : Nat → Prop, gh_cd pl I D → (∀ o, s.1 o = true → I o) → (∀ o, s.2 o = true → D o) → (∀ o, s'.1 o = true → I o) ∧ ∀ o, s'.2 o = true → D o
  | _, _, 0, _, _, _, hf, _, _ => by omega
  | 0, j, f + 1, N, s, hj, _, H, hH => by
    refine ⟨N, s, ?_, H, fr_refl _ _, fun o => ⟨id, id⟩, fun j' h1 h2 => by omega, fun I D _ h1 h2 => ⟨h1, h2⟩⟩
    rw [un_160_10]
    simp (disch := omega) only [pu_y96]
  | k + 1, j, f + 1, N, s, hj, hf, H, hH => by
    rw [un_160_10]
    simp (disch := omega) only [pu_x96, pu_d6, pu_m6, pu_cl, pu_g2]
    unfold fd_160_42
    rw [nI_1, (H (j / 6) (by omega)).2]
    by_cases h : s.2 (j / 6) = true
    · rw [if_neg (fun e => by rw [(pu_b0 _).mp e] at h; cases h)]
      have e99 : N 99 j = en_o (pl (j / 6) (j % 6)) := by
        have := hH.1 (j / 6) (j % 6) (by omega) (by omega)
        rw [show 6 * (j / 6) + j % 6 = j by omega] at this; exact this
      rw [e99]
      obtain ⟨N1, e1, e2, e3⟩ := rs_159 (v := pl (j / 6) (j % 6)) (c := j % 6) (s := s) (fun t ht => hw _ _ t (by omega) ht) (by omega) H
      rw [e1]
      simp only [Option.bind_some]
      obtain ⟨N2, s2, f1, f2, f3, f4, f5, f6⟩ := rs_160_10 hw k2 x1 k (j + 1) f N1 _ (by omega) (by omega) e2 ⟨fun h k h1 h2 => by rw [e3 99 (by decide)]; exact hH.1 h k h1 h2, fun a k h1 h2 => by rw [e3 101 (by decide)]; exact hH.2 a k h1 h2⟩
      refine ⟨N2, s2, f1, f2, fr_tr e3 f3, fun o => ⟨fun h => (f4 o).1 (ab_rt_1.1 h), fun h => (f4 o).2 (ab_rt_1.2 h)⟩, fun j' h1 h2 h3 u hu => ?_, fun I D hcd g1 g2 => ?_⟩
      · by_cases e : j' = j
        · subst e
          rw [hu] at f4
          exact ⟨(f4 u).1 ab_rt_2.1, fun h5 => (f4 u).2 (ab_rt_2.2 h5)⟩
        · exact f5 j' (by omega) h2 (ab_rt_1.2 h3) u hu
      · have := ab_rt_3 (v := pl (j / 6) (j % 6)) (c := j % 6) g1 g2 (fun t ht => hcd (j / 6) (j % 6) t (by omega) (by omega) (g2 _ h) ht)
        exact f6 I D hcd this.1 this.2
    · have h0 : s.2 (j / 6) = false := by simpa using h
      rw [if_pos ((pu_b0 _).mpr h0)]
      obtain ⟨N2, s2, f1, f2, f3, f4, f5, f6⟩ := rs_160_10 hw k2 x1 k (j + 1) f N s (by omega) (by omega) H hH
      refine ⟨N2, s2, f1, f2, f3, f4, fun j' h1 h2 h3 u hu => ?_, f6⟩
      by_cases e : j' = j
      · rw [e] at h3; exact absurd h3 h
      · exact f5 j' (by omega) h2 h3 u hu
/-- closed, as bits -/
theorem rs_160_2 (hw : ∀ h k t, h < 20 → pl h k = some t → t < 16) : ∀ (p x f : Nat) (N : am_M) (s : (Nat → Bool) × (Nat → Bool)), x + p = 17 → p < f → rf_wk N s.1 s.2 → rf_H N pl → (17 ≤ ab_n s.2 16 + p ∨ gh_cd pl (fun o => s.1 o = true) (fun o => s.2 o = true)) → ∃ (N' : am_M) (s' : (Nat → Bool) × (Nat → Bool)), fd_160_2 f (nI x) N = some N' ∧ rf_wk N' s'.1 s'.2 ∧ fr_ [112, 113] N N' ∧ (∀ o, (s.1 o = true → s'.1 o = true) ∧ (s.2 o = true → s'.2 o = true)) ∧ gh_cd pl (fun o => s'.1 o = true) (fun o => s'.2 o = true) ∧ ∀ I D : Nat → Prop, gh_cd pl I D → (∀ o, s.1 o = true → I o) → (∀ o, s.2 o = true → D o) → (∀ o, s'.1 o = true → I o) ∧ ∀ o, s'.2 o = true → D o
  | _, _, 0, _, _, _, hf, _, _, _ => by omega
  | 0, x, f + 1, N, s, hx, _, H, hH, hc => by
    refine ⟨N, s, ?_, H, fr_refl _ _, fun o => ⟨id, id⟩, ?_, fun I D _ h1 h2 => ⟨h1, h2⟩⟩
    · rw [un_160_2]
      simp (disch := omega) only [pu_y17]
    · rcases hc with h | h
      · have := ab_n_le s.2 16; omega
      · exact h
  | p + 1, x, f + 1, N, s, hx, hf, H, hH, hc => by
    rw [un_160_2]
    simp (disch := omega) only [pu_x17]
    obtain ⟨N1, s1, e1, e2, e3, e4, e5, e6⟩ := rs_160_10 hw (fd_160_2 f) (nI x) 96 0 1000 N s (by omega) (by omega) H hH
    rw [show (0 : Int32) = nI 0 from rfl, e1, nI_1]
    have hH1 : rf_H N1 pl := ⟨fun h k h1 h2 => by rw [e3 99 (by decide)]; exact hH.1 h k h1 h2, fun a k h1 h2 => by rw [e3 101 (by decide)]; exact hH.2 a k h1 h2⟩
    have prog : ∀ p' k' u, p' < 16 → k' < 6 → s.2 p' = true → pl p' k' = some u → s1.1 u = true ∧ (k' < 5 → s1.2 u = true) := by
      intro p' k' u h1 h2 h3 h4
      have := e5 (6 * p' + k') (by omega) (by omega) (by rw [show (6 * p' + k') / 6 = p' by omega]; exact h3) u (by rw [show (6 * p' + k') / 6 = p' by omega, show (6 * p' + k') % 6 = k' by omega]; exact h4)
      rw [show (6 * p' + k') % 6 = k' by omega] at this; exact this
    have hc1 : 17 ≤ ab_n s1.2 16 + p ∨ gh_cd pl (fun o => s1.1 o = true) (fun o => s1.2 o = true) := by
      rcases hc with h | h
      · by_cases hl : ab_n s1.2 16 ≤ ab_n s.2 16
        · right
          have same := ab_n_strict 16 (fun o _ => (e4 o).2) hl
          intro p' k' u h1 h2 h3 h4
          exact prog p' k' u h1 h2 (by rw [← same p' h1]; exact h3) h4
        · left; omega
      · right
        have hs := e6 _ _ h (fun o h => h) (fun o h => h)
        intro p' k' u h1 h2 h3 h4
        exact prog p' k' u h1 h2 (hs.2 p' h3) h4
    obtain ⟨N2, s2, f1, f2, f3, f4, f5, f6⟩ := rs_160_2 hw p (x + 1) f N1 s1 (by omega) (by omega) e2 hH1 hc1
    exact ⟨N2, s2, f1, f2, fr_tr e3 f3, fun o => ⟨fun h => (f4 o).1 ((e4 o).1 h), fun h => (f4 o).2 ((e4 o).2 h)⟩, f5, fun I D hcd g1 g2 => by
      have := e6 I D hcd g1 g2; exact f6 I D hcd this.1 this.2⟩
theorem rs_160 (hw : ∀ h k t, h < 20 → pl h k = some t → t < 16) {s : (Nat → Bool) × (Nat → Bool)} (H : rf_wk N s.1 s.2) (hH : rf_H N pl) : ∃ (N' : am_M) (s' : (Nat → Bool) × (Nat → Bool)), fd_160 N = some N' ∧ rf_wk N' s'.1 s'.2 ∧ fr_ [112, 113] N N' ∧ (∀ o, (s.1 o = true → s'.1 o = true) ∧ (s.2 o = true → s'.2 o = true)) ∧ gh_cd pl (fun o => s'.1 o = true) (fun o => s'.2 o = true) ∧ ∀ I D : Nat → Prop, gh_cd pl I D → (∀ o, s.1 o = true → I o) → (∀ o, s.2 o = true → D o) → (∀ o, s'.1 o = true → I o) ∧ ∀ o, s'.2 o = true → D o :=
  rs_160_2 hw 17 0 1000 N s rfl (by decide) H hH (Or.inl (by omega))
end
