/-! Paying for what is sent -/
def ab_pay (ow : Nat → Option Nat) (a u : Nat) (s : (Nat → Nat → Int) × ct_Q × Nat) : (Nat → Nat → Int) × ct_Q × Nat :=
  if ow u = some a then (gh_u s.1 a u (s.1 a u + 1), s.2)
  else if s.1 a u < 2 then (gh_u s.1 a u (s.1 a u + 7), ct_ap s.2.1 s.2.2 (1, (ow u).getD 0, u, 8, fun _ => false), s.2.2 + 1)
  else (gh_u s.1 a u (s.1 a u - 1), s.2)
def ab_pays (cl : Nat → Bool) (ow : Nat → Option Nat) (a : Nat) : Nat → Nat → (Nat → Nat → Int) × ct_Q × Nat → (Nat → Nat → Int) × ct_Q × Nat
  | 0, _, s => s
  | k + 1, u, s => ab_pays cl ow a k (u + 1) (if cl u = true then ab_pay ow a u s else s)
def ab_need (cl : Nat → Bool) (ow : Nat → Option Nat) (ct : Nat → Nat → Int) (a : Nat) : Nat → Nat → Nat
  | 0, _ => 0
  | k + 1, u => (if cl u = true ∧ ow u ≠ some a ∧ ct a u < 2 then 1 else 0) + ab_need cl ow ct a k (u + 1)
theorem en_w2 : en_w 2 := ⟨by decide, by decide⟩
theorem en_2 (x : Int) (h : en_w x) : en_i x < (2 : Int32) ↔ x < 2 := en_i_lt h en_w2
theorem en_2' (x : Int) (h : en_w x) : (2 : Int32) ≤ en_i x ↔ 2 ≤ x := en_i_le en_w2 h
section
variable {N M : am_M} {pl pl' : Nat → Nat → Option Nat} {ow : Nat → Option Nat} {q : ct_Q} {m n a u : Nat} {s : (Nat → Nat → Int) × ct_Q × Nat} {cl : Nat → Bool}
theorem ow_lt (hw : ∀ o a, ow o = some a → a < 4) (o : Nat) : ∀ t, ow o = some t → t < 1000 := fun t h => by have := hw o t h; omega
/-- pay -/
theorem rs_167 (hw : ∀ o a, ow o = some a → a < 4) (ha : a < 4) (hu : u < 16) (hO : rf_O N ow) (hT : rf_T N s.1) (hQ : rf_Q N pl s.2.1 s.2.2) (he : ow u ≠ none) (hc : en_w (s.1 a u)) (hr : ow u ≠ some a → s.1 a u < 2 → s.2.2 < 20) : ∃ N', fd_167 (nI a) (nI u) N = some N' ∧ rf_T N' (ab_pay ow a u s).1 ∧ rf_Q N' pl (ab_pay ow a u s).2.1 (ab_pay ow a u s).2.2 ∧ fr_ [96, 100, 108, 109, 110, 111] N N' ∧ fs_ [15] N N' := by
  have e97 : N 97 u = nI a ↔ ow u = some a := by rw [hO u hu]; exact en_o_nI (by omega) (ow_lt hw u)
  have e100 := hT a u ha hu
  unfold fd_167 ab_pay
  simp (disch := omega) only [pu_16, pu_cl, pu_g2]
  by_cases h1 : ow u = some a
  · rw [if_pos (e97.mpr h1), if_pos h1]
    refine ⟨_, rfl, ?_, ?_, ?_, ?_⟩
    · rw [e100, show en_i (s.1 a u) + (1 : Int32) = en_i (s.1 a u + 1) from (en_i_add _ 1).symm]; exact rf_T_w hT ha hu _
    · exact rf_Q_f hQ (by rw [dw_r _ _ _ (by decide)]) (dw_r _ _ _ (by decide)) (dw_r _ _ _ (by decide)) (dw_r _ _ _ (by decide)) (dw_r _ _ _ (by decide))
    · exact fr_w (fr_refl _ _) (by decide)
    · exact fs_w (fs_refl _ _) (by simp)
  · rw [if_neg (fun h => h1 (e97.mp h)), if_neg h1, e100]
    by_cases h2 : s.1 a u < 2
    · rw [if_pos ((en_2 _ hc).mpr h2), if_pos h2]
      cases ho : ow u with
      | none => exact absurd ho he
      | some b =>
        have e : N 97 u = nI b := by rw [hO u hu, ho]; rfl
        rw [e]
        obtain ⟨N', e1, e2, e3, e4⟩ := rs_155 (pl' := pl) hQ (hr h1 h2) (1, b, u, 8, fun _ => false) (fun _ _ => rfl) (a1 := 1) (a2 := nI b) (a3 := nI u) (a4 := 8) rfl rfl rfl rfl
        rw [e1]
        simp only [Option.bind_some]
        have hT' : rf_T N' s.1 := rf_T_f hT (e3 100 (by decide))
        refine ⟨_, rfl, ?_, ?_, ?_, ?_⟩
        · rw [hT' a u ha hu, show en_i (s.1 a u) + (7 : Int32) = en_i (s.1 a u + 7) from (en_i_add _ 7).symm]; exact rf_T_w hT' ha hu _
        · exact rf_Q_f e2 (by rw [dw_r _ _ _ (by decide)]) (dw_r _ _ _ (by decide)) (dw_r _ _ _ (by decide)) (dw_r _ _ _ (by decide)) (dw_r _ _ _ (by decide))
        · exact fr_w (fr_up e3 (by simp)) (by decide)
        · exact fs_w e4 (by simp)
    · rw [if_neg (fun h => h2 ((en_2 _ hc).mp h)), if_neg h2]
      refine ⟨_, rfl, ?_, ?_, ?_, ?_⟩
      · rw [show en_i (s.1 a u) - (1 : Int32) = en_i (s.1 a u - 1) from (en_i_sub _ 1).symm]; exact rf_T_w hT ha hu _
      · exact rf_Q_f hQ (by rw [dw_r _ _ _ (by decide)]) (dw_r _ _ _ (by decide)) (dw_r _ _ _ (by decide)) (dw_r _ _ _ (by decide)) (dw_r _ _ _ (by decide))
      · exact fr_w (fr_refl _ _) (by decide)
      · exact fs_w (fs_refl _ _) (by simp)
/-- growCount -/
theorem cs_82 {ct : Nat → Nat → Int} (ha : a < 4) (hu : u < 16) (hT : cl_T M ct) {v : Int32} {w : Int} (hv : v = en_i w) : ∃ M', fd_82 (nI a) (nI u) v M = some M' ∧ cl_T M' (gh_u ct a u (ct a u + w)) ∧ fr_ [83] M M' := by
  unfold fd_82
  simp (disch := omega) only [pu_16', pu_cl, pu_g2]
  refine ⟨_, rfl, ?_, ?_⟩
  · rw [hT a u ha hu, hv, ← en_i_add]; exact cl_T_w hT ha hu _
  · exact fr_w (fr_refl _ _) (by decide)
/-- countSent -/
theorem cs_102 (hw : ∀ o a, ow o = some a → a < 4) (ha : a < 4) (hu : u < 16) (hO : cl_O M ow) (hT : cl_T M s.1) (hQ : cl_Q M pl s.2.1 s.2.2) (he : ow u ≠ none) (hc : en_w (s.1 a u)) (hr : ow u ≠ some a → s.1 a u < 2 → s.2.2 < 20) : ∃ M', fd_102 (nI a) (nI u) M = some M' ∧ cl_T M' (ab_pay ow a u s).1 ∧ cl_Q M' pl (ab_pay ow a u s).2.1 (ab_pay ow a u s).2.2 ∧ fr_ [83, 84, 85, 86, 87, 88] M M' := by
  have e80 : M 80 u = nI a ↔ ow u = some a := by rw [hO u hu]; exact en_o_nI (by omega) (ow_lt hw u)
  have e83 := hT a u ha hu
  unfold fd_102 ab_pay
  rw [sp_81 hu, Option.bind_some]
  by_cases h1 : ow u = some a
  · rw [if_pos (e80.mpr h1), if_pos h1]
    obtain ⟨M', e1, e2, e3⟩ := cs_82 ha hu hT (v := 1) (w := 1) rfl
    rw [e1]
    refine ⟨_, rfl, e2, ?_, fr_up e3 (by simp)⟩
    exact cl_Q_f hQ (e3 _ (by decide)) (e3 _ (by decide)) (e3 _ (by decide)) (e3 _ (by decide)) (e3 _ (by decide))
  · rw [if_neg (fun h => h1 (e80.mp h)), if_neg h1, sp_101 ha hu, Option.bind_some]
    simp only [e83]
    by_cases h2 : s.1 a u < 2
    · rw [if_pos ((en_2 _ hc).mpr h2), if_pos h2]
      cases ho : ow u with
      | none => exact absurd ho he
      | some b =>
        have e : M 80 u = nI b := by rw [hO u hu, ho]; rfl
        rw [sp_81 hu, e]
        simp only [Option.bind_some]
        obtain ⟨M', e1, e2, e3⟩ := cs_66 (pl' := pl) hQ (hr h1 h2) (1, b, u, 8, fun _ => false) (fun _ _ => rfl) (a1 := 1) (a2 := nI b) (a3 := nI u) (a4 := 8) rfl rfl rfl rfl
        rw [e1]
        simp only [Option.bind_some]
        have hT' : cl_T M' s.1 := cl_T_f hT (e3 83 (by decide))
        obtain ⟨M'', f1, f2, f3⟩ := cs_82 ha hu hT' (v := 7) (w := 7) rfl
        rw [f1]
        refine ⟨_, rfl, f2, ?_, fr_tr (fr_up e3 (by simp)) (fr_up f3 (by simp))⟩
        exact cl_Q_f e2 (f3 _ (by decide)) (f3 _ (by decide)) (f3 _ (by decide)) (f3 _ (by decide)) (f3 _ (by decide))
    · rw [if_neg (fun h => h2 ((en_2 _ hc).mp h)), if_neg h2]
      obtain ⟨M', e1, e2, e3⟩ := cs_82 ha hu hT (v := -1) (w := -1) rfl
      rw [e1]
      refine ⟨_, rfl, e2, ?_, fr_up e3 (by simp)⟩
      exact cl_Q_f hQ (e3 _ (by decide)) (e3 _ (by decide)) (e3 _ (by decide)) (e3 _ (by decide)) (e3 _ (by decide))
end
