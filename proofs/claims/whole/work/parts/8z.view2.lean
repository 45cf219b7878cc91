/-! rights: the reference's passes -/
section
variable {N : am_M} {pl : Nat → Nat → Option Nat} {ow : Nat → Option Nat}
/-- closed under views -/
def gh_vd (pl : Nat → Nat → Option Nat) (S : Nat → Nat → Prop) : Prop := ∀ p c k u, p < 16 → c < 5 → k < 6 → S p c → pl p k = some u → S u (gh_vw c k)
theorem rs_179_2 (hw : ∀ h k t, h < 20 → pl h k = some t → t < 16) : ∀ (k j f : Nat) (N : am_M) (se : Nat → Nat → Bool), j + k = 96 → k < f → rf_V N se → rf_H N pl → ∃ (N' : am_M) (se' : Nat → Nat → Bool), fd_179_2 f (nI j) N = some N' ∧ rf_V N' se' ∧ fr_ [114] N N' ∧ (∀ o c, se o c = true → se' o c = true) ∧ (∀ p c k u, j ≤ 6 * p + c → p < 16 → c < 5 → k < 6 → se p c = true → pl p k = some u → se' u (gh_vw c k) = true) ∧ ∀ S : Nat → Nat → Prop, gh_vd pl S → (∀ o c, se o c = true → S o c) → ∀ o c, se' o c = true → S o c
  | _, _, 0, _, _, _, hf, _, _ => by omega
  | 0, j, f + 1, N, se, hj, _, H, _ => by
    refine ⟨N, se, ?_, H, fr_refl _ _, fun _ _ h => h, fun p c k u h1 h2 h3 => by omega, fun S _ h => h⟩
    rw [un_179_2]
    simp (disch := omega) only [pu_y96]
  | k + 1, j, f + 1, N, se, hj, hf, H, hH => by
    rw [un_179_2]
    simp (disch := omega) only [pu_x96, pu_d6, pu_m6, pu_cl, pu_g2]
    unfold fd_179_79
    rw [nI_1, H j (by omega)]
    have skip : ¬ (se (j / 6) (j % 6) = true ∧ j % 6 < 5) → ∃ (N' : am_M) (se' : Nat → Nat → Bool), fd_179_2 f (nI (j + 1)) N = some N' ∧ rf_V N' se' ∧ fr_ [114] N N' ∧ (∀ o c, se o c = true → se' o c = true) ∧ (∀ p c k u, j ≤ 6 * p + c → p < 16 → c < 5 → k < 6 → se p c = true → pl p k = some u → se' u (gh_vw c k) = true) ∧ ∀ S : Nat → Nat → Prop, gh_vd pl S → (∀ o c, se o c = true → S o c) → ∀ o c, se' o c = true → S o c := by
      intro hn
      obtain ⟨N2, s2, f1, f2, f3, f4, f5, f6⟩ := rs_179_2 hw k (j + 1) f N se (by omega) (by omega) H hH
      refine ⟨N2, s2, f1, f2, f3, f4, fun p c k' u h1 h2 h3 h4 h5 h6 => ?_, f6⟩
      by_cases e : 6 * p + c = j
      · exact absurd (by rw [← e, show (6 * p + c) / 6 = p by omega, show (6 * p + c) % 6 = c by omega]; exact ⟨h5, h3⟩) hn
      · exact f5 p c k' u (by omega) h2 h3 h4 h5 h6
    by_cases h : se (j / 6) (j % 6) = true
    · rw [if_neg (fun e => by rw [(pu_b0 _).mp e] at h; cases h)]
      by_cases h5 : j % 6 = 5
      · rw [if_pos (show nI (j % 6) = (5 : Int32) by rw [h5]; rfl)]
        exact skip (fun g => by omega)
      · rw [if_neg (show ¬ nI (j % 6) = (5 : Int32) from fun g => h5 ((en_nI (t := 5) (by omega) (by decide)).mp g))]
        obtain ⟨N1, s1, e1, e2, e3, e4, e5, e6⟩ := rs_179_32 hw (fd_179_2 f) (p := j / 6) (c := j % 6) (by omega) (by omega) 6 0 1000 N se (by omega) (by omega) H hH
        rw [show 6 * (j / 6) + j % 6 = j by omega] at e1
        rw [show (0 : Int32) = nI 0 from rfl, e1, nI_1]
        obtain ⟨N2, s2, f1, f2, f3, f4, f5, f6⟩ := rs_179_2 hw k (j + 1) f N1 s1 (by omega) (by omega) e2 (rf_H_f hH (e3 _ (by decide)) (e3 _ (by decide)))
        refine ⟨N2, s2, f1, f2, fr_tr e3 f3, fun o c g => f4 o c (e4 o c g), fun p c k' u h1 h2 h3 h4 g5 h6 => ?_, fun S hS g => f6 S hS (e6 S g (fun k' u _ hk hu => hS _ _ _ _ (by omega) (by omega) hk (g _ _ h) hu))⟩
        by_cases e : 6 * p + c = j
        · have hp : p = j / 6 := by omega
          have hc : c = j % 6 := by omega
          subst hp; subst hc
          exact f4 _ _ (e5 k' u (by omega) h4 h6)
        · exact f5 p c k' u (by omega) h2 h3 h4 (e4 _ _ g5) h6
    · have h0 : se (j / 6) (j % 6) = false := by simpa using h
      rw [if_pos ((pu_b0 _).mpr h0)]
      exact skip (fun g => h g.1)
def ab_se (se : Nat → Nat → Bool) : Nat → Bool := fun x => se (x / 6) (x % 6)
def ab_sn (se : Nat → Nat → Bool) : Nat := ab_n (ab_se se) 96
def rv_204 (x2 : Int32) (N' : am_M) : Option (Int32 × am_M) := if (((6 : Int32) * x2) + (5 : Int32)) < 0 ∨ 96 ≤ (((6 : Int32) * x2) + (5 : Int32)).toNatClampNeg then none else fd_178_204 1000 x2 (N' 114 (((6 : Int32) * x2) + (5 : Int32)).toNatClampNeg) (0 : Int32) (0 : Int32) (0 : Int32) N'
set_option maxRecDepth 4096 in
theorem rs_178_167 (hw : ∀ h k t, h < 20 → pl h k = some t → t < 16) (x2 : Int32) : ∀ (p x f : Nat) (N : am_M) (se : Nat → Nat → Bool), x + p = 96 → p < f → rf_V N se → rf_H N pl → (97 ≤ ab_sn se + p ∨ gh_vd pl (fun o c => se o c = true)) → ∃ (N' : am_M) (se' : Nat → Nat → Bool), fd_178_167 f x2 (nI x) N = rv_204 x2 N' ∧ rf_V N' se' ∧ fr_ [114] N N' ∧ (∀ o c, se o c = true → se' o c = true) ∧ gh_vd pl (fun o c => se' o c = true) ∧ ∀ S : Nat → Nat → Prop, gh_vd pl S → (∀ o c, se o c = true → S o c) → ∀ o c, se' o c = true → S o c
  | _, _, 0, _, _, _, hf, _, _, _ => by omega
  | 0, x, f + 1, N, se, hx, _, H, hH, hc => by
    refine ⟨N, se, ?_, H, fr_refl _ _, fun _ _ h => h, ?_, fun S _ h => h⟩
    · rw [un_178_167, pu_y96 (by omega) (by omega)]; rfl
    · rcases hc with h | h
      · have : ab_sn se ≤ 96 := ab_n_le (ab_se se) 96
        omega
      · exact h
  | p + 1, x, f + 1, N, se, hx, hf, H, hH, hc => by
    rw [un_178_167, pu_x96 (by omega)]
    obtain ⟨N1, s1, e1, e2, e3, e4, e5, e6⟩ := rs_179_2 hw 96 0 1000 N se (by omega) (by omega) H hH
    rw [show fd_179 N = some N1 from e1, Option.bind_some, nI_1]
    have hH1 : rf_H N1 pl := rf_H_f hH (e3 _ (by decide)) (e3 _ (by decide))
    have hc1 : 97 ≤ ab_sn s1 + p ∨ gh_vd pl (fun o c => s1 o c = true) := by
      rcases hc with h | h
      · by_cases hl : ab_sn s1 ≤ ab_sn se
        · right
          have same := ab_n_strict 96 (fun o _ => e4 (o / 6) (o % 6)) hl
          intro p' c' k' u h1 h2 h3 h4 h5
          refine e5 p' c' k' u (by omega) h1 h2 h3 ?_ h5
          have := same (6 * p' + c') (by omega)
          unfold ab_se at this
          rw [show (6 * p' + c') / 6 = p' by omega, show (6 * p' + c') % 6 = c' by omega] at this
          rw [← this]; exact h4
        · left; omega
      · right
        have hs := e6 _ h (fun _ _ h => h)
        intro p' c' k' u h1 h2 h3 h4 h5
        exact e5 p' c' k' u (by omega) h1 h2 h3 (hs _ _ h4) h5
    obtain ⟨N2, s2, f1, f2, f3, f4, f5, f6⟩ := rs_178_167 hw x2 p (x + 1) f N1 s1 (by omega) (by omega) e2 hH1 hc1
    exact ⟨N2, s2, f1, f2, fr_tr e3 f3, fun o c h => f4 o c (e4 o c h), f5, fun S hS g => f6 S hS (e6 S hS g)⟩
/-- cleared -/
theorem rs_178_23 (x1 x2 : Int32) : ∀ (k j f : Nat) (N : am_M), j + k = 96 → k < f → (∀ x, x < j → N 114 x = 0) → ∃ N', fd_178_23 f x1 x2 (nI j) N = fd_178_44 1000 x1 x2 0 N' ∧ rf_V N' (fun _ _ => false) ∧ fr_ [114] N N'
  | _, _, 0, _, _, hf, _ => by omega
  | 0, j, f + 1, N, hj, _, h => by
    refine ⟨N, ?_, fun x hx => by rw [h x (by omega)]; rfl, fr_refl _ _⟩
    rw [un_178_23, pu_y96 (by omega) (by omega)]
  | k + 1, j, f + 1, N, hj, hf, h => by
    rw [un_178_23]
    simp (disch := omega) only [pu_x96, pu_cl, pu_g2]
    rw [nI_1]
    obtain ⟨N', e1, e2, e3⟩ := rs_178_23 x1 x2 k (j + 1) f (ds_w N 114 j ((0 : Int32) &&& 1)) (by omega) (by omega) (fun x hx => by
      by_cases e : x = j
      · subst e; rw [dw_s]; rfl
      · rw [dw_n _ _ e]; exact h x (by omega))
    exact ⟨N', e1, e2, fr_tr (fr_w (fr_refl _ _) (by decide)) e3⟩
/-- the fields -/
theorem rs_178_44 {a : Nat} (hw : ∀ h k t, h < 20 → pl h k = some t → t < 16) (ha : a < 4) (x2 : Int32) : ∀ (k j f : Nat) (N : am_M) (se : Nat → Nat → Bool) (R : Nat → Nat → Prop), j + k = 6 → k < f → rf_V N se → rf_H N pl → mt_R se R → ∃ (N' : am_M) (se' : Nat → Nat → Bool), fd_178_44 f (nI a) x2 (nI j) N = fd_178_95 1000 (nI a) x2 0 N' ∧ rf_V N' se' ∧ fr_ [114] N N' ∧ mt_R se' (fun t c => R t c ∨ (j ≤ c ∧ c < 6 ∧ pl (16 + a) c = some t))
  | _, _, 0, _, _, _, _, hf, _, _, _ => by omega
  | 0, j, f + 1, N, se, R, hj, _, H, hH, hR => by
    refine ⟨N, se, ?_, H, fr_refl _ _, mt_R_eq hR (fun o c => ⟨Or.inl, fun h => h.resolve_right (by omega)⟩)⟩
    rw [un_178_44]
    simp (disch := omega) only [pu_y6]
  | k + 1, j, f + 1, N, se, R, hj, hf, H, hH, hR => by
    rw [un_178_44]
    simp (disch := omega) only [pu_x6, pu_6, pu_cl, pu_g2]
    rw [hH.2 a j ha (by omega)]
    unfold fd_178_87
    rw [nI_1]
    have fin : ∀ (N1 : am_M) (s1 : Nat → Nat → Bool), rf_V N1 s1 → fr_ [114] N N1 → mt_R s1 (fun o k => R o k ∨ (pl (16 + a) j = some o ∧ k = j)) → ∃ (N' : am_M) (se' : Nat → Nat → Bool), fd_178_44 f (nI a) x2 (nI (j + 1)) N1 = fd_178_95 1000 (nI a) x2 0 N' ∧ rf_V N' se' ∧ fr_ [114] N N' ∧ mt_R se' (fun t c => R t c ∨ (j ≤ c ∧ c < 6 ∧ pl (16 + a) c = some t)) := by
      intro N1 s1 g1 g2 g3
      obtain ⟨N2, s2, f1, f2, f3, f4⟩ := rs_178_44 hw ha x2 k (j + 1) f N1 s1 _ (by omega) (by omega) g1 (rf_H_f hH (g2 _ (by decide)) (g2 _ (by decide))) g3
      refine ⟨N2, s2, f1, f2, fr_tr g2 f3, mt_R_eq f4 (fun o c => ?_)⟩
      constructor
      · rintro ((h | ⟨h, rfl⟩) | ⟨h1, h2, h3⟩)
        · exact Or.inl h
        · exact Or.inr ⟨Nat.le_refl _, by omega, h⟩
        · exact Or.inr ⟨by omega, h2, h3⟩
      · rintro (h | ⟨h1, h2, h3⟩)
        · exact Or.inl (Or.inl h)
        · by_cases e : c = j
          · subst e; exact Or.inl (Or.inr ⟨h3, rfl⟩)
          · exact Or.inr ⟨by omega, h2, h3⟩
    have hm := mt_R_mt hR (pl (16 + a) j) j
    cases hv : pl (16 + a) j with
    | none =>
      rw [if_pos (show en_o none = -1 from rfl)]
      rw [hv] at hm fin
      exact fin N se H (fr_refl _ _) hm
    | some v =>
      have hv16 := hw _ _ v (by omega) hv
      rw [if_neg (show ¬ en_o (some v) = -1 from en_nI_m1 (by omega))]
      simp only [show en_o (some v) = nI v from rfl, pu_6]
      simp (disch := omega) only [pu_cl, pu_g2]
      rw [hv] at hm fin
      exact fin _ _ (rf_V_w hv16 (by omega) H) (fr_w (fr_refl _ _) (by decide)) hm
end
