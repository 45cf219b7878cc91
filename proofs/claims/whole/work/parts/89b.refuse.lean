/-! Refusals of the class -/
section
variable {M N : am_M} {t : ty_T} {pr : Nat → Nat} {h bg : Nat}
theorem cl_Y_c (H : cl_Y M t) {y : Nat} (hy : y < 7) : M 4 y = en_o (ty_c t y) ∧ M 5 y = pu_b (ty_h t y) := by
  unfold ty_c ty_h
  by_cases e : y = 6
  · subst e; rw [if_pos rfl, if_pos rfl]; exact ⟨H.2.2.1, H.2.2.2⟩
  · rw [if_neg e, if_neg e]; exact ⟨(H.1 y (by omega)).1, (H.1 y (by omega)).2.1⟩
theorem ty_c6 (hw : ty_w t) {y c : Nat} (h : ty_c t y = some c) : c < 6 := by
  unfold ty_c at h
  by_cases e : y = 6
  · rw [if_pos e] at h; injection h with h; omega
  · rw [if_neg e] at h; exact hw.1 y c h
theorem cs_35 (H : cl_Y M t) (hw : ty_w t) {y : Nat} (hy : y < 7) : fd_35 (nI y) M = some (pu_b (decide (ty_c t y = none)), M) := by
  unfold fd_35
  simp (disch := omega) only [pu_cl, pu_g2]
  rw [(cl_Y_c H hy).1]
  have e := en_o_m1 (v := ty_c t y) (fun c hc => by have := ty_c6 hw hc; omega)
  by_cases h : ty_c t y = none
  · rw [if_pos (e.mpr h), decide_eq_true h]; rfl
  · rw [if_neg (fun g => h (e.mp g)), decide_eq_false h]; rfl
theorem cs_33 {j : Nat} (hj : j < 11) (h0 : M h 0 = nI j) : fd_33 h M = some (pu_b (st_uy j), M) := by
  unfold fd_33 fd_33_17 fd_33_26
  rw [h0]
  rcases lt11 hj with rfl | rfl | rfl | rfl | rfl | rfl | rfl | rfl | rfl | rfl | rfl <;> rfl
theorem cs_34 {j : Nat} (hj : j < 11) (h0 : M h 0 = nI j) : fd_34 h M = some (pu_b (st_uz j), M) := by
  unfold fd_34 fd_34_25
  rw [h0]
  rcases lt11 hj with rfl | rfl | rfl | rfl | rfl | rfl | rfl | rfl | rfl | rfl | rfl <;> rfl
theorem cs_32 {j y z R : Nat} (H : cl_Y M t) (hw : ty_w t) (hj : j < 11) (h0 : M h 0 = nI j) (hy : st_uy j = true → M h 2 = nI y ∧ y < 7) (hz : st_uz j = true → M h 4 = nI z ∧ z < 6) (hR : (st_uy j = true → ty_c t y ≠ none) → (st_uz j = true → ty_c t z ≠ none) → fd_32_135 h M = some (nI R, M)) : fd_32 h M = some (nI (st_fr t j y z R), M) := by
  have a33 := cs_33 hj h0
  have a34 := cs_34 hj h0
  have n9 : M h 0 = 9 ↔ j = 9 := by rw [h0]; exact en_nI (t := 9) (by omega) (by decide)
  have n10 : M h 0 = 10 ↔ j = 10 := by rw [h0]; exact en_nI (t := 10) (by omega) (by decide)
  have n5 : M h 0 = 5 ↔ j = 5 := by rw [h0]; exact en_nI (t := 5) (by omega) (by decide)
  have a113 : (st_uy j = true → ty_c t y ≠ none) → (st_uz j = true → ty_c t z ≠ none) → fd_32_113 h M = some (nI (if j = 5 ∧ y = z then 6 else R), M) := by
    intro g1 g2
    unfold fd_32_113
    rw [hR g1 g2]
    by_cases e : j = 5
    · rw [if_pos (n5.mpr e)]
      obtain ⟨e1, e2⟩ := hy (by rw [e]; rfl)
      obtain ⟨e3, e4⟩ := hz (by rw [e]; rfl)
      rw [e1, e3]
      by_cases c : y = z
      · rw [if_pos (by rw [c]), if_pos ⟨e, c⟩]; rfl
      · rw [if_neg (fun g => c ((en_nI (by omega) (by omega)).mp g)), if_neg (fun g => c g.2)]
    · rw [if_neg (fun g => e (n5.mp g)), if_neg (fun g => e g.1)]
  have a92 : (st_uy j = true → ty_c t y ≠ none) → fd_32_92 h M = some (nI (if st_uz j = true ∧ ty_c t z = none then 6 else if j = 5 ∧ y = z then 6 else R), M) := by
    intro g1
    unfold fd_32_92
    rw [a34, Option.bind_some, pu_b_if]
    by_cases u : st_uz j = true
    · rw [if_pos u]
      obtain ⟨e3, e4⟩ := hz u
      simp only [e3]
      rw [cs_35 H hw (show z < 7 by omega), Option.bind_some, pu_b_if]
      by_cases c : ty_c t z = none
      · rw [if_pos (decide_eq_true c), if_pos ⟨u, c⟩]; rfl
      · rw [if_neg (by simpa using c), if_neg (fun g => c g.2), a113 g1 (fun _ => c)]
    · rw [if_neg u, if_neg (fun g => u g.1), a113 g1 (fun g => absurd g u)]
  have a74 : fd_32_74 h M = some (nI (if st_uy j = true ∧ ty_c t y = none then 6 else if st_uz j = true ∧ ty_c t z = none then 6 else if j = 5 ∧ y = z then 6 else R), M) := by
    unfold fd_32_74
    rw [a33, Option.bind_some, pu_b_if]
    by_cases u : st_uy j = true
    · rw [if_pos u]
      obtain ⟨e3, e4⟩ := hy u
      simp only [e3]
      rw [cs_35 H hw e4, Option.bind_some, pu_b_if]
      by_cases c : ty_c t y = none
      · rw [if_pos (decide_eq_true c), if_pos ⟨u, c⟩]; rfl
      · rw [if_neg (by simpa using c), if_neg (show ¬ (st_uy j = true ∧ ty_c t y = none) from fun g => c g.2), a92 (fun _ => c)]
    · rw [if_neg u, if_neg (show ¬ (st_uy j = true ∧ ty_c t y = none) from fun g => u g.1), a92 (fun g => absurd g u)]
  have a53 : fd_32_53 h M = some (nI (if st_uz j = true ∧ ty_h t z = true then 5 else if st_uy j = true ∧ ty_c t y = none then 6 else if st_uz j = true ∧ ty_c t z = none then 6 else if j = 5 ∧ y = z then 6 else R), M) := by
    unfold fd_32_53
    rw [a34, Option.bind_some, pu_b_if]
    by_cases u : st_uz j = true
    · rw [if_pos u]
      obtain ⟨e3, e4⟩ := hz u
      simp only [e3]
      simp (disch := omega) only [pu_cl, pu_g2]
      rw [(cl_Y_c H (show z < 7 by omega)).2, pu_b_if]
      by_cases c : ty_h t z = true
      · rw [if_pos c, if_pos ⟨u, c⟩]; rfl
      · rw [if_neg c, if_neg (show ¬ (st_uz j = true ∧ ty_h t z = true) from fun g => c g.2), a74]
    · rw [if_neg u, if_neg (show ¬ (st_uz j = true ∧ ty_h t z = true) from fun g => u g.1), a74]
  have a34' : fd_32_34 h M = some (nI (if st_uy j = true ∧ ty_h t y = true then 5 else if st_uz j = true ∧ ty_h t z = true then 5 else if st_uy j = true ∧ ty_c t y = none then 6 else if st_uz j = true ∧ ty_c t z = none then 6 else if j = 5 ∧ y = z then 6 else R), M) := by
    unfold fd_32_34
    rw [a33, Option.bind_some, pu_b_if]
    by_cases u : st_uy j = true
    · rw [if_pos u]
      obtain ⟨e3, e4⟩ := hy u
      simp only [e3]
      simp (disch := omega) only [pu_cl, pu_g2]
      rw [(cl_Y_c H e4).2, pu_b_if]
      by_cases c : ty_h t y = true
      · rw [if_pos c, if_pos ⟨u, c⟩]; rfl
      · rw [if_neg c, if_neg (show ¬ (st_uy j = true ∧ ty_h t y = true) from fun g => c g.2), a53]
    · rw [if_neg u, if_neg (show ¬ (st_uy j = true ∧ ty_h t y = true) from fun g => u g.1), a53]
  unfold fd_32 fd_32_16 st_fr
  rw [H.2.1, pu_b_if, pu_b_if, a34']
  generalize (if st_uy j = true ∧ ty_h t y = true then 5 else if st_uz j = true ∧ ty_h t z = true then 5 else if st_uy j = true ∧ ty_c t y = none then 6 else if st_uz j = true ∧ ty_c t z = none then 6 else if j = 5 ∧ y = z then 6 else R) = X
  by_cases e9 : j = 9
  · rw [if_pos (n9.mpr e9)]
    have e10 : ¬ M h 0 = 10 := fun g => by have := n10.mp g; omega
    cases hb : t.2.2.2 with
    | true => rw [if_pos rfl, if_pos ⟨e9, rfl⟩]; rfl
    | false => rw [if_neg (by simp), if_neg e10, if_neg (by simp), if_neg (by omega)]
  · rw [if_neg (fun g => e9 (n9.mp g)), if_neg (show ¬ (j = 9 ∧ t.2.2.2 = true) from fun g => e9 g.1)]
    by_cases e10 : j = 10
    · rw [if_pos (n10.mpr e10)]
      cases hb : t.2.2.2 with
      | true => rw [if_pos rfl, if_neg (by simp)]
      | false => rw [if_neg (by simp), if_pos ⟨e10, rfl⟩]; rfl
    · rw [if_neg (fun g => e10 (n10.mp g)), if_neg (show ¬ (j = 10 ∧ t.2.2.2 = false) from fun g => e10 g.1)]
end
