/-! rights: what is seen, by which capability -/
/-- the least that has R and goes on by views -/
def gh_vc (pl : Nat → Nat → Option Nat) (R : Nat → Nat → Prop) (o c : Nat) : Prop := ∀ S : Nat → Nat → Prop, (∀ o c, R o c → S o c) → (∀ p c k u, p < 16 → c < 5 → k < 6 → S p c → pl p k = some u → S u (gh_vw c k)) → S o c
theorem gh_vc_0 {pl : Nat → Nat → Option Nat} {R : Nat → Nat → Prop} {o c : Nat} (h : R o c) : gh_vc pl R o c := fun _ h1 _ => h1 o c h
theorem gh_vc_1 {pl : Nat → Nat → Option Nat} {R : Nat → Nat → Prop} {p c k u : Nat} (hp : p < 16) (hc : c < 5) (hk : k < 6) (h : gh_vc pl R p c) (hu : pl p k = some u) : gh_vc pl R u (gh_vw c k) := fun S h1 h2 => h2 p c k u hp hc hk (h S h1 h2) hu
theorem gh_vw5 {c f : Nat} (h : gh_vw c f < 5) : f ≠ 5 := by
  intro e; subst e; unfold gh_vw at h; simp at h
theorem gh_vc_d {pl : Nat → Nat → Option Nat} {R : Nat → Nat → Prop} {p c : Nat} (h : gh_vc pl R p c) (hc : c < 5) : gh_D1 pl R p := by
  refine h (fun p c => c < 5 → gh_D1 pl R p) (fun o c h c5 => ⟨o, c, h, c5, gh_dp_refl o⟩) (fun p c k u hp c5 hk hs hu h5 => ?_) hc
  obtain ⟨t, c0, h1, h2, h3⟩ := hs c5
  exact ⟨t, c0, h1, h2, gh_dp_step h3 hp (by have := gh_vw5 h5; omega) hu⟩
section
variable {M N : am_M} {pl : Nat → Nat → Option Nat} {ow : Nat → Option Nat}
/-- the fields of one object, seen by c -/
theorem cs_121_42 (hw : ∀ h k t, h < 20 → pl h k = some t → t < 16) (k2 : Int32 → am_M → Option am_M) (x1 : Int32) {p c : Nat} (hp : p < 16) (hc : c < 5) : ∀ (k j f : Nat) (M : am_M) (mb : Nat → Nat → Bool) (w : Nat → Nat) (z : Nat), j + k = 6 → k < f → cl_wk M mb w z → (∀ k, k < 6 → M 82 (p * 6 + k) = en_o (pl p k)) → ∃ (M' : am_M) (mb' : Nat → Nat → Bool) (w' : Nat → Nat) (z' : Nat), fd_121_42 k2 f x1 (nI p) (nI c) (nI j) M = k2 (x1 + 1) M' ∧ cl_wk M' mb' w' z' ∧ fr_ [89, 90, 91] M M' ∧ (∀ o c, mb o c = true → mb' o c = true) ∧ (∀ k u, j ≤ k → k < 6 → pl p k = some u → mb' u (gh_vw c k) = true) ∧ z ≤ z' ∧ (∀ i, i < z → w' i = w i) ∧ ∀ S : Nat → Nat → Prop, (∀ o c, mb o c = true → S o c) → (∀ k u, j ≤ k → k < 6 → pl p k = some u → S u (gh_vw c k)) → ∀ o c, mb' o c = true → S o c
  | _, _, 0, _, _, _, _, _, hf, _, _ => by omega
  | 0, j, f + 1, M, mb, w, z, hj, _, H, _ => by
    refine ⟨M, mb, w, z, ?_, H, fr_refl _ _, fun _ _ h => h, fun k u h1 h2 => by omega, Nat.le_refl _, fun _ _ => rfl, fun S h _ => h⟩
    rw [un_121_42]
    simp (disch := omega) only [pu_y6]
  | k + 1, j, f + 1, M, mb, w, z, hj, hf, H, hF => by
    rw [un_121_42]
    simp (disch := omega) only [pu_x6]
    rw [sp_79 (show p < 20 by omega) (show j < 6 by omega), Option.bind_some]
    simp only [hF j (by omega)]
    rw [cs_48 hc (show j < 6 by omega), Option.bind_some]
    simp only []
    obtain ⟨M1, w1, z1, e1, e2, e3, e4, e5⟩ := cs_77 (v := pl p j) (c := gh_vw c j) (fun t ht => hw p j t (by omega) ht) (gh_vw6 hc (by omega)) H
    rw [e1]
    simp only [Option.bind_some]
    rw [nI_1]
    obtain ⟨M2, mb2, w2, z2, f1, f2, f3, f4, f5, f6, f7, f8⟩ := cs_121_42 hw k2 x1 hp hc k (j + 1) f M1 _ w1 z1 (by omega) (by omega) e2 (fun k hk => by rw [e3 82 (by decide)]; exact hF k hk)
    refine ⟨M2, mb2, w2, z2, f1, f2, fr_tr e3 f3, fun o c h => f4 o c (ab_mt_1 h), fun k' u h1 h2 hu => ?_, by omega, fun i hi => by rw [f7 i (by omega), e5 i hi], fun S g1 g2 => f8 S (ab_mt_3 g1 (fun t ht => g2 j t (Nat.le_refl _) (by omega) ht)) (fun k' u h1 h2 => g2 k' u (by omega) h2)⟩
    by_cases e : k' = j
    · subst e; refine f4 u _ ?_; rw [hu]; exact ab_mt_2
    · exact f5 k' u (by omega) h2 hu
/-- followByView -/
theorem cs_121_2 (hw : ∀ h k t, h < 20 → pl h k = some t → t < 16) (S : Nat → Nat → Prop) (hS : ∀ p c k u, p < 16 → c < 5 → k < 6 → S p c → pl p k = some u → S u (gh_vw c k)) : ∀ (r i f : Nat) (M : am_M) (mb : Nat → Nat → Bool) (w : Nat → Nat) (z : Nat), i + r = 96 → r < f → cl_wk M mb w z → (∀ p c k, p < 16 → c < 5 → S p c → k < 6 → M 82 (p * 6 + k) = en_o (pl p k)) → (∀ o c, mb o c = true → S o c) → (∀ j, j < i → j < z → ∀ k u, k < 6 → pl (w j / 6) k = some u → mb u (gh_vw (w j % 6) k) = true) → ∃ (M' : am_M) (mb' : Nat → Nat → Bool) (w' : Nat → Nat) (z' : Nat), fd_121_2 f (nI i) M = some M' ∧ cl_wk M' mb' w' z' ∧ fr_ [89, 90, 91] M M' ∧ (∀ o c, mb o c = true → mb' o c = true) ∧ (∀ o c, mb' o c = true → S o c) ∧ ∀ p c k u, p < 16 → c < 5 → k < 6 → mb' p c = true → pl p k = some u → mb' u (gh_vw c k) = true
  | _, _, 0, _, _, _, _, _, hf, _, _, _, _ => by omega
  | r, i, f + 1, M, mb, w, z, hi, hf, H, hF, hs, hp => by
    have z96 : z ≤ 96 := by rw [H.2.2.2.2.2]; exact ab_n_le _ _
    rw [un_121_2, H.2.1]
    by_cases hz : z ≤ i
    · rw [pu_end hz (by omega)]
      refine ⟨M, mb, w, z, rfl, H, fr_refl _ _, fun _ _ h => h, hs, fun p c k u hp16 hc hk hm hu => ?_⟩
      obtain ⟨j, hj, e⟩ := H.2.2.2.2.1 p c hp16 hc hm
      have := hp j (by omega) hj k u hk (by rw [e, show (6 * p + c) / 6 = p by omega]; exact hu)
      rw [e, show (6 * p + c) % 6 = c by omega] at this; exact this
    · rw [pu_go (by omega) (by omega)]
      obtain ⟨r', rfl⟩ : ∃ r', r = r' + 1 := ⟨r - 1, by omega⟩
      simp (disch := omega) only [pu_x96, pu_cl, pu_g2]
      obtain ⟨w96, w5, wm⟩ := H.2.2.2.1 i (by omega)
      rw [H.2.2.1 i (by omega)]
      simp (disch := omega) only [pu_d6, pu_m6]
      have hSi := hs _ _ wm
      obtain ⟨M1, mb1, w1, z1, e1, e2, e3, e4, e5, e6, e7, e8⟩ := cs_121_42 hw (fd_121_2 f) (nI i) (p := w i / 6) (c := w i % 6) (by omega) w5 6 0 1000 M mb w z rfl (by decide) H (fun k hk => hF _ _ k (by omega) w5 hSi hk)
      rw [show (0 : Int32) = nI 0 from rfl, e1, nI_1]
      obtain ⟨M2, mb2, w2, z2, f1, f2, f3, f4, f5, f6⟩ := cs_121_2 hw S hS r' (i + 1) f M1 mb1 w1 z1 (by omega) (by omega) e2 (fun p c k h1 h2 h3 h4 => by rw [e3 82 (by decide)]; exact hF p c k h1 h2 h3 h4) (e8 S hs (fun k u _ hk hu => hS _ _ k u (by omega) w5 hk hSi hu)) (fun j hj hjz k u hk hu => by
        by_cases e : j = i
        · subst e
          rw [e7 j (by omega)] at hu ⊢
          exact e5 k u (by omega) hk hu
        · rw [e7 j (by omega)] at hu ⊢
          exact e4 _ _ (hp j (by omega) (by omega) k u hk hu))
      exact ⟨M2, mb2, w2, z2, f1, f2, fr_tr e3 f3, fun o c h => f4 o c (e4 o c h), f5, f6⟩
theorem cs_121 {mb : Nat → Nat → Bool} {w : Nat → Nat} {z : Nat} {R : Nat → Nat → Prop} (hw : ∀ h k t, h < 20 → pl h k = some t → t < 16) (H : cl_wk M mb w z) (hH : cl_H M pl ow) (hR : mt_R mb R) (hl : ∀ p, p < 16 → gh_D1 pl R p → ow p ≠ none) : ∃ (M' : am_M) (mb' : Nat → Nat → Bool) (w' : Nat → Nat) (z' : Nat), fd_121 M = some M' ∧ cl_wk M' mb' w' z' ∧ fr_ [89, 90, 91] M M' ∧ ∀ o c, mb' o c = true ↔ gh_vc pl R o c := by
  obtain ⟨M', mb', w', z', e1, e2, e3, e4, e5, e6⟩ := cs_121_2 hw (gh_vc pl R) (fun p c k u hp hc hk h hu => gh_vc_1 hp hc hk h hu) 96 0 1000 M mb w z rfl (by decide) H (fun p c k hp hc h hk => hH.1 p k hp hk (hl p hp (gh_vc_d h hc))) (fun o c h => gh_vc_0 ((hR o c).mp h)) (fun j hj => by omega)
  exact ⟨M', mb', w', z', e1, e2, e3, fun o c => ⟨e5 o c, fun h => h (fun o c => mb' o c = true) (fun o c h => e4 o c ((hR o c).mpr h)) e6⟩⟩
/-! the reference's -/
def rf_V (N : am_M) (se : Nat → Nat → Bool) : Prop := ∀ x, x < 96 → N 114 x = pu_b (se (x / 6) (x % 6))
theorem rf_V_w {se : Nat → Nat → Bool} {t c : Nat} (ht : t < 16) (hc : c < 6) (H : rf_V N se) : rf_V (ds_w N 114 (6 * t + c) ((1 : Int32) &&& 1)) (gh_u se t c true) := by
  intro x hx
  by_cases e : x = 6 * t + c
  · subst e; rw [dw_s, show (6 * t + c) / 6 = t by omega, show (6 * t + c) % 6 = c by omega, gh_u_s]; rfl
  · rw [dw_n _ _ e, gh_u_n _ _ (by omega)]; exact H x hx
theorem rs_179_32 (hw : ∀ h k t, h < 20 → pl h k = some t → t < 16) (k2 : Int32 → am_M → Option am_M) {p c : Nat} (hp : p < 16) (hc : c < 5) : ∀ (k j f : Nat) (N : am_M) (se : Nat → Nat → Bool), j + k = 6 → k < f → rf_V N se → rf_H N pl → ∃ (N' : am_M) (se' : Nat → Nat → Bool), fd_179_32 k2 f (nI (6 * p + c)) (nI c) (nI j) N = k2 (nI (6 * p + c) + 1) N' ∧ rf_V N' se' ∧ fr_ [114] N N' ∧ (∀ o c, se o c = true → se' o c = true) ∧ (∀ k u, j ≤ k → k < 6 → pl p k = some u → se' u (gh_vw c k) = true) ∧ ∀ S : Nat → Nat → Prop, (∀ o c, se o c = true → S o c) → (∀ k u, j ≤ k → k < 6 → pl p k = some u → S u (gh_vw c k)) → ∀ o c, se' o c = true → S o c
  | _, _, 0, _, _, _, hf, _, _ => by omega
  | 0, j, f + 1, N, se, hj, _, H, _ => by
    refine ⟨N, se, ?_, H, fr_refl _ _, fun _ _ h => h, fun k u h1 h2 => by omega, fun S h _ => h⟩
    rw [un_179_32]
    simp (disch := omega) only [pu_y6]
    rfl
  | k + 1, j, f + 1, N, se, hj, hf, H, hH => by
    rw [un_179_32]
    have e0 : nI (6 * p + c) - nI c + nI j = nI (6 * p + j) := by
      rw [← nI_add (6 * p) c]; rw [Int32.add_sub_cancel, nI_add]
    simp (disch := omega) only [pu_x6, e0, pu_cl, pu_g2]
    rw [hH.1 p j hp (by omega)]
    unfold fd_179_73
    rw [nI_1]
    cases hv : pl p j with
    | none =>
      rw [if_pos (show en_o none = -1 from rfl)]
      obtain ⟨N2, s2, f1, f2, f3, f4, f5, f6⟩ := rs_179_32 hw k2 hp hc k (j + 1) f N se (by omega) (by omega) H hH
      refine ⟨N2, s2, f1, f2, f3, f4, fun k' u h1 h2 hu => ?_, fun S g1 g2 => f6 S g1 (fun k' u h1 h2 => g2 k' u (by omega) h2)⟩
      by_cases e : k' = j
      · subst e; rw [hv] at hu; cases hu
      · exact f5 k' u (by omega) h2 hu
    | some v =>
      have hv16 := hw p j v (by omega) hv
      have vw6 := gh_vw6 hc (show j < 6 by omega)
      rw [if_neg (show ¬ en_o (some v) = -1 from en_nI_m1 (by omega)), rs_140 hc (by omega), Option.bind_some]
      simp only [show en_o (some v) = nI v from rfl, pu_6]
      simp (disch := omega) only [pu_cl, pu_g2]
      obtain ⟨N2, s2, f1, f2, f3, f4, f5, f6⟩ := rs_179_32 hw k2 hp hc k (j + 1) f _ _ (by omega) (by omega) (rf_V_w hv16 vw6 H) (rf_H_f hH (dw_r _ _ _ (by decide)) (dw_r _ _ _ (by decide)))
      refine ⟨N2, s2, f1, f2, fr_tr (fr_w (fr_refl _ _) (by decide)) f3, fun o c' h => f4 o c' (ab_mt_1 (v := some v) h), fun k' u h1 h2 hu => ?_, fun S g1 g2 => f6 S (ab_mt_3 (v := some v) g1 (fun t ht => g2 j t (Nat.le_refl _) (by omega) (by rw [hv]; exact ht))) (fun k' u h1 h2 => g2 k' u (by omega) h2)⟩
      by_cases e : k' = j
      · subst e; rw [hv] at hu; injection hu with hu; subst hu; exact f4 _ _ (gh_u_s _ _ _ _)
      · exact f5 k' u (by omega) h2 hu
end
