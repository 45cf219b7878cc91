/-! Fields, cells, what is shown: on both sides -/
/-- the holder that y names: the actor itself, or what the local has -/
def ab_hd (a : Nat) (lo : Nat → Option Nat) (y : Nat) : Option Nat := if y = 6 then some (16 + a) else lo y
def ab_rd (pl : Nat → Nat → Option Nat) (h : Option Nat) (f : Nat) : Option Nat := match h with
  | none => none
  | some h => pl h f
def ab_wr (pl : Nat → Nat → Option Nat) (h : Option Nat) (f : Nat) (v : Option Nat) : Nat → Nat → Option Nat := match h with
  | none => pl
  | some h => gh_u pl h f v
def rf_D (N : am_M) (sh : Nat → Int32) (t : Nat) : Prop := N 96 25 = nI t ∧ ∀ k, k < 16 → k < t → N 116 k = sh k
def cl_D (M : am_M) (sh : Nat → Int32) (t : Nat) : Prop := M 92 1 = nI t ∧ ∀ k, k < 16 → k < t → M 93 ((t - 1 - k) % 16) = sh k
def ab_ad (o : Nat) (z : Int32) (ce : Nat → Int32) : Nat → Int32 := fun u => if u = o then ce o + z else ce u
def ab_sh (v : Int32) (sh : Nat → Int32) : Nat → Int32 := fun k => if k = 0 then v else sh (k - 1)
section
variable {N M : am_M} {pl : Nat → Nat → Option Nat} {ow : Nat → Option Nat} {lo : Nat → Option Nat} {sh : Nat → Int32} {a y f t : Nat}
theorem en_o_s (h : Nat) : en_o (some h) = nI h := rfl
theorem pu_e6 {y : Nat} (h : y < 1000) : (nI y = (6 : Int32)) ↔ y = 6 := en_nI (t := 6) h (by decide)
theorem rs_163 (ha : a < 4) (hy : y < 7) (hf : f < 6) (hl : ∀ x t, lo x = some t → t < 16) (hL : rf_L N lo) (hH : rf_H N pl) : fd_163 (nI a) (nI y) (nI f) N = some (en_o (ab_rd pl (ab_hd a lo y) f), N) := by
  unfold fd_163 ab_hd
  by_cases e : y = 6
  · rw [if_pos ((pu_e6 (by omega)).mpr e), if_pos e]
    simp (disch := omega) only [pu_6, pu_cl, pu_g2]
    rw [hH.2 a f ha hf]; rfl
  · rw [if_neg (fun h => e ((pu_e6 (by omega)).mp h)), if_neg e]
    simp (disch := omega) only [pu_cl, pu_g2]
    rw [hL y (by omega)]
    cases hv : lo y with
    | none => exact if_pos rfl
    | some h =>
      have := hl y h hv
      rw [if_neg (show ¬ en_o (some h) = -1 from en_nI_m1 (by omega))]
      simp (disch := omega) only [en_o_s, pu_6, pu_cl, pu_g2]
      rw [hH.1 h f this hf]; rfl
theorem rs_164 (ha : a < 4) (hy : y < 7) (hf : f < 6) (hl : ∀ x t, lo x = some t → t < 16) (hL : rf_L N lo) (hH : rf_H N pl) (v : Option Nat) : ∃ N', fd_164 (nI a) (nI y) (nI f) (en_o v) N = some N' ∧ rf_H N' (ab_wr pl (ab_hd a lo y) f v) ∧ fr_ [99, 101] N N' := by
  unfold fd_164 ab_hd
  by_cases e : y = 6
  · rw [if_pos ((pu_e6 (by omega)).mpr e), if_pos e]
    simp (disch := omega) only [pu_6, pu_cl, pu_g2]
    refine ⟨_, rfl, ⟨fun h k hh hk => ?_, fun b k hb hk => ?_⟩, fr_w (fr_refl _ _) (by decide)⟩
    · rw [dw_r _ _ _ (by decide)]
      show _ = en_o (gh_u pl (16 + a) f v h k)
      rw [gh_u_n _ _ (by omega)]; exact hH.1 h k hh hk
    · show _ = en_o (gh_u pl (16 + a) f v (16 + b) k)
      by_cases e : b = a ∧ k = f
      · obtain ⟨rfl, rfl⟩ := e; rw [dw_s, gh_u_s]
      · rw [dw_n _ _ (by omega), gh_u_n _ _ (by omega)]; exact hH.2 b k hb hk
  · rw [if_neg (fun h => e ((pu_e6 (by omega)).mp h)), if_neg e]
    simp (disch := omega) only [pu_cl, pu_g2]
    rw [hL y (by omega)]
    cases hv : lo y with
    | none => exact ⟨N, if_pos rfl, hH, fr_refl _ _⟩
    | some h =>
      have := hl y h hv
      rw [if_neg (show ¬ en_o (some h) = -1 from en_nI_m1 (by omega))]
      simp (disch := omega) only [en_o_s, pu_6, pu_cl, pu_g2]
      refine ⟨_, rfl, ⟨fun h' k hh hk => ?_, fun b k hb hk => ?_⟩, fr_w (fr_refl _ _) (by decide)⟩
      · show _ = en_o (gh_u pl h f v h' k)
        by_cases e : h' = h ∧ k = f
        · obtain ⟨rfl, rfl⟩ := e; rw [dw_s, gh_u_s]
        · rw [dw_n _ _ (by omega), gh_u_n _ _ e]; exact hH.1 h' k hh hk
      · rw [dw_r _ _ _ (by decide)]
        show _ = en_o (gh_u pl h f v (16 + b) k)
        rw [gh_u_n _ _ (by omega)]; exact hH.2 b k hb hk
theorem cs_90 (hy : y < 7) (hL : cl_L M lo) : fd_90 (nI a) (nI y) M = some (en_o (ab_hd a lo y), M) := by
  unfold fd_90 ab_hd fd_91
  by_cases e : y = 6
  · rw [if_pos ((pu_e6 (by omega)).mpr e), if_pos e]
    show some ((16 : Int32) + nI a, M) = _
    rw [show (16 : Int32) + nI a = nI (16 + a) from nI_add 16 a]; rfl
  · rw [if_neg (fun h => e ((pu_e6 (by omega)).mp h)), if_neg e]
    simp (disch := omega) only [pu_cl, pu_g2]
    rw [hL y (by omega)]
theorem cs_92 {hv : Option Nat} (hf : f < 6) (hh : ∀ h, hv = some h → h < 20 ∧ (h < 16 → ow h ≠ none)) (hH : cl_H M pl ow) : fd_92 (en_o hv) (nI f) M = some (en_o (ab_rd pl hv f), M) := by
  unfold fd_92
  cases hv with
  | none => exact if_pos rfl
  | some h =>
    obtain ⟨h1, h2⟩ := hh h rfl
    rw [if_neg (show ¬ en_o (some h) = -1 from en_nI_m1 (by omega))]
    show (fd_79 (nI h) (nI f) M).bind _ = _
    rw [sp_79 h1 hf, Option.bind_some]
    by_cases e : h < 16
    · rw [hH.1 h f e hf (h2 e)]; rfl
    · have := hH.2 (h - 16) f (by omega) hf
      rw [show 16 + (h - 16) = h by omega] at this
      rw [this]; rfl
theorem cs_93 {hv : Option Nat} (hf : f < 6) (hh : ∀ h, hv = some h → h < 20 ∧ (h < 16 → ow h ≠ none)) (hH : cl_H M pl ow) (v : Option Nat) : ∃ M', fd_93 (en_o hv) (nI f) (en_o v) M = some (en_o (ab_rd pl hv f), M') ∧ cl_H M' (ab_wr pl hv f v) ow ∧ fr_ [82] M M' := by
  unfold fd_93
  cases hv with
  | none => exact ⟨M, if_pos rfl, hH, fr_refl _ _⟩
  | some h =>
    obtain ⟨h1, h2⟩ := hh h rfl
    rw [if_neg (show ¬ en_o (some h) = -1 from en_nI_m1 (by omega))]
    show ∃ M', (fd_79 (nI h) (nI f) M).bind _ = _ ∧ _
    rw [sp_79 h1 hf, Option.bind_some]
    simp only []
    show ∃ M', (fd_89 (nI h) (nI f) (en_o v) M).bind _ = _ ∧ _
    rw [cs_89 h1 hf, Option.bind_some]
    have e0 : M 82 (h * 6 + f) = en_o (pl h f) := by
      by_cases e : h < 16
      · exact hH.1 h f e hf (h2 e)
      · have := hH.2 (h - 16) f (by omega) hf
        rw [show 16 + (h - 16) = h by omega] at this; exact this
    rw [e0]
    refine ⟨_, rfl, ⟨fun h' k hh' hk hl => ?_, fun b k hb hk => ?_⟩, fr_w (fr_refl _ _) (by decide)⟩
    · show _ = en_o (gh_u pl h f v h' k)
      by_cases e : h' = h ∧ k = f
      · obtain ⟨rfl, rfl⟩ := e; rw [dw_s, gh_u_s]
      · rw [dw_n _ _ (by omega), gh_u_n _ _ e]; exact hH.1 h' k hh' hk hl
    · show _ = en_o (gh_u pl h f v (16 + b) k)
      by_cases e : 16 + b = h ∧ k = f
      · obtain ⟨rfl, rfl⟩ := e; rw [dw_s, gh_u_s]
      · rw [dw_n _ _ (by omega), gh_u_n _ _ e]; exact hH.2 b k hb hk
/-- show -/
theorem rs_165_3 (v : Int32) : ∀ (j f : Nat) (N : am_M), j ≤ 15 → j < f → ∃ N', fd_165_3 f v (nI j) N = some N' ∧ N' 116 0 = v ∧ (∀ k, 1 ≤ k → k ≤ j → N' 116 k = N 116 (k - 1)) ∧ (∀ k, j < k → N' 116 k = N 116 k) ∧ N' 96 25 = N 96 25 + 1 ∧ fr_ [96, 116] N N' ∧ fs_ [25] N N'
  | _, 0, _, _, hf => by omega
  | 0, f + 1, N, _, _ => by
    rw [un_165_3, if_pos (show nI 0 ≤ (0 : Int32) by decide), if_neg (by decide)]
    refine ⟨_, rfl, ?_, fun k h1 h2 => by omega, fun k hk => ?_, ?_, fr_w (fr_w (fr_refl _ _) (by decide)) (by decide), fs_w (fs_w (fs_refl _ _) (by simp)) (by simp)⟩
    · rw [dw_r _ _ _ (by decide)]; exact dw_s _ _ _ _
    · rw [dw_r _ _ _ (by decide)]; exact dw_n _ _ (by show k ≠ 0; omega)
    · rw [dw_s]
  | j + 1, f + 1, N, hj, hf => by
    rw [un_165_3, if_neg (show ¬ nI (j + 1) ≤ (0 : Int32) from fun e => by have := (pu_le (b := 0) (by omega) (by decide)).mp e; omega)]
    rw [show nI (j + 1) - (1 : Int32) = nI j from pk_sub (a := j + 1) (b := 1) (by omega), pk_m1]
    simp (disch := omega) only [pu_cl, pu_g2]
    obtain ⟨N', e1, e2, e3, e4, e5, e6, e7⟩ := rs_165_3 v j f (ds_w N 116 (j + 1) (N 116 j)) (by omega) (by omega)
    refine ⟨N', e1, e2, fun k h1 h2 => ?_, fun k hk => ?_, ?_, fr_tr (fr_w (fr_refl _ _) (by decide)) e6, fs_tr (fs_w (fs_refl _ _) (by simp)) e7⟩
    · by_cases e : k = j + 1
      · subst e; rw [e4 _ (by omega), dw_s]; rfl
      · rw [e3 k h1 (by omega), dw_n _ _ (by omega)]
    · rw [e4 k (by omega), dw_n _ _ (by omega)]
    · rw [e5, dw_r _ _ _ (by decide)]
theorem rs_165 (H : rf_D N sh t) (v : Int32) : ∃ N', fd_165 v N = some N' ∧ rf_D N' (ab_sh v sh) (t + 1) ∧ fr_ [96, 116] N N' ∧ fs_ [25] N N' := by
  obtain ⟨N', e1, e2, e3, e4, e5, e6, e7⟩ := rs_165_3 v 15 1000 N (by decide) (by decide)
  refine ⟨N', e1, ⟨by rw [e5, H.1, nI_1], fun k hk ht => ?_⟩, e6, e7⟩
  unfold ab_sh
  by_cases e : k = 0
  · rw [if_pos e, e, e2]
  · rw [if_neg e, e3 k (by omega) (by omega)]; exact H.2 (k - 1) (by omega) (by omega)
theorem cs_98 (H : cl_D M sh t) (ht : t < 100000) (v : Int32) : ∃ M', fd_98 v M = some M' ∧ cl_D M' (ab_sh v sh) (t + 1) ∧ fr_ [92, 93] M M' := by
  unfold fd_98
  rw [H.1, if_neg (nI_pos (by omega)), show nI t - nI t / 16 * 16 = nI (t % 16) from pk_rem (d := 16) (by omega) (by decide) (by decide)]
  simp (disch := omega) only [pu_cl, pu_g2]
  refine ⟨_, rfl, ⟨by rw [dw_s, nI_1], fun k hk hk' => ?_⟩, fr_w (fr_w (fr_refl _ _) (by decide)) (by decide)⟩
  rw [dw_r _ _ _ (by decide)]
  unfold ab_sh
  by_cases e : k = 0
  · subst e; rw [if_pos rfl]
    rw [show (t + 1 - 1 - 0) % 16 = t % 16 by omega, dw_s]
  · rw [if_neg e, dw_n _ _ (by omega), ← H.2 (k - 1) (by omega) (by omega)]
    rw [show t - 1 - (k - 1) = t + 1 - 1 - k by omega]
theorem cs_96 {ce : Nat → Int32} {v : Option Nat} (hv : ∀ o, v = some o → o < 16 ∧ ow o ≠ none) (hC : cl_C M ow ce) (H : cl_D M sh t) (ht : t < 100000) : ∃ M', fd_96 (en_o v) M = some M' ∧ (v = none → M' = M) ∧ (∀ o, v = some o → cl_D M' (ab_sh (ce o) sh) (t + 1)) ∧ fr_ [92, 93] M M' := by
  unfold fd_96
  cases v with
  | none => exact ⟨M, if_pos rfl, fun _ => rfl, fun o h => (by cases h), fr_refl _ _⟩
  | some o =>
    obtain ⟨h1, h2⟩ := hv o rfl
    rw [if_neg (show ¬ en_o (some o) = -1 from en_nI_m1 (by omega))]
    show ∃ M', (fd_97 (nI o) M).bind _ = _ ∧ _
    rw [sp_97 h1, Option.bind_some, hC o h1 h2]
    obtain ⟨M', e1, e2, e3⟩ := cs_98 H ht (ce o)
    refine ⟨M', ?_, fun h => (by cases h), fun o' h => ?_, e3⟩
    · show (fd_98 (ce o) M).bind _ = _
      rw [e1]; rfl
    · injection h with h; subst h; exact e2
/-- ADD -/
theorem cs_94 {ce : Nat → Int32} {v : Option Nat} (hv : ∀ o, v = some o → o < 16 ∧ ow o ≠ none) (hC : cl_C M ow ce) (z : Int32) : ∃ M', fd_94 (en_o v) z M = some M' ∧ (v = none → M' = M) ∧ (∀ o, v = some o → cl_C M' ow (ab_ad o z ce)) ∧ fr_ [81] M M' := by
  unfold fd_94
  cases v with
  | none => exact ⟨M, if_pos rfl, fun _ => rfl, fun o h => (by cases h), fr_refl _ _⟩
  | some o =>
    obtain ⟨h1, h2⟩ := hv o rfl
    rw [if_neg (show ¬ en_o (some o) = -1 from en_nI_m1 (by omega))]
    show ∃ M', (fd_95 (nI o) z M).bind _ = _ ∧ _
    unfold fd_95
    simp (disch := omega) only [pu_cl, pu_g2]
    refine ⟨_, rfl, fun h => (by cases h), fun o' h u hu hl => ?_, fr_w (fr_refl _ _) (by decide)⟩
    injection h with h; subst h
    unfold ab_ad
    by_cases e : u = o
    · subst e; rw [dw_s, if_pos rfl, hC u hu hl]
    · rw [dw_n _ _ e, if_neg e]; exact hC u hu hl
end
