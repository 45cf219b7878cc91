/-! The loops of sending -/
/-- what the walk has met: the reference's row, the class's -/
def rf_in (N : am_M) (cl : Nat → Bool) : Prop := ∀ o, o < 16 → N 112 o = if cl o = true then 1 else 0
def cl_in (M : am_M) (cl : Nat → Bool) : Prop := ∀ o, o < 16 → (M 90 o = 0 ↔ cl o = false)
theorem ab_pay_n {ow : Nat → Option Nat} {a u : Nat} {s : (Nat → Nat → Int) × ct_Q × Nat} {c o : Nat} (h : ¬ (c = a ∧ o = u)) : (ab_pay ow a u s).1 c o = s.1 c o := by
  unfold ab_pay
  split
  · exact gh_u_n _ _ h
  · split
    · exact gh_u_n _ _ h
    · exact gh_u_n _ _ h
theorem ab_need_eq {cl : Nat → Bool} {ow : Nat → Option Nat} {ct ct' : Nat → Nat → Int} {a : Nat} : ∀ (k u : Nat), (∀ o, u ≤ o → ct' a o = ct a o) → ab_need cl ow ct' a k u = ab_need cl ow ct a k u
  | 0, _, _ => rfl
  | k + 1, u, h => by rw [ab_need, ab_need, h u (Nat.le_refl _), ab_need_eq k (u + 1) (fun o ho => h o (by omega))]
theorem ab_pay_m {ow : Nat → Option Nat} {a u : Nat} {s : (Nat → Nat → Int) × ct_Q × Nat} : (ab_pay ow a u s).2.2 = s.2.2 + (if ow u ≠ some a ∧ s.1 a u < 2 then 1 else 0) := by
  unfold ab_pay
  by_cases h1 : ow u = some a
  · simp [h1]
  · by_cases h2 : s.1 a u < 2
    · simp [h1, h2]
    · simp [h1, h2]
section
variable {N M : am_M} {pl pl' : Nat → Nat → Option Nat} {ow : Nat → Option Nat} {q : ct_Q} {m n a : Nat} {cl : Nat → Bool}
theorem rs_166_107 (hw : ∀ o a, ow o = some a → a < 4) (ha : a < 4) (he : ∀ o, o < 16 → cl o = true → ow o ≠ none) (x2 x3 x4 : Int32) : ∀ (k u f : Nat) (s : (Nat → Nat → Int) × ct_Q × Nat) (N : am_M), u + k = 16 → k < f → rf_O N ow → rf_in N cl → rf_T N s.1 → rf_Q N pl s.2.1 s.2.2 → (∀ o, u ≤ o → o < 16 → en_w (s.1 a o)) → s.2.2 + ab_need cl ow s.1 a k u ≤ 20 → ∃ N', fd_166_107 f (nI a) x2 x3 x4 (nI u) N = fd_155 0 x2 x3 x4 N' ∧ rf_T N' (ab_pays cl ow a k u s).1 ∧ rf_Q N' pl (ab_pays cl ow a k u s).2.1 (ab_pays cl ow a k u s).2.2 ∧ fr_ [96, 100, 108, 109, 110, 111] N N' ∧ fs_ [15] N N'
  | _, _, 0, _, _, _, hf, _, _, _, _, _, _ => by omega
  | 0, u, f + 1, s, N, hu, _, hO, hI, hT, hQ, hc, hm => by
    refine ⟨N, ?_, hT, hQ, fr_refl _ _, fs_refl _ _⟩
    rw [un_166_107]
    simp (disch := omega) only [pu_y16, Option.bind_fun_some]
  | k + 1, u, f + 1, s, N, hu, hf, hO, hI, hT, hQ, hc, hm => by
    rw [un_166_107]
    simp (disch := omega) only [pu_x16, pu_cl, pu_g2]
    rw [hI u (by omega)]
    rw [ab_need] at hm
    by_cases h : cl u = true
    · rw [if_pos h, if_neg pu_10]
      simp only [ab_pays, if_pos h]
      obtain ⟨N1, e1, e2, e3, e4, e5⟩ := rs_167 (s := s) hw ha (show u < 16 by omega) hO hT hQ (he u (by omega) h) (hc u (Nat.le_refl _) (by omega)) (fun g1 g2 => by
        rw [if_pos ⟨h, g1, g2⟩] at hm; omega)
      rw [e1]
      simp only [Option.bind_some]
      unfold fd_166_131
      rw [nI_1]
      obtain ⟨N2, f1, f2, f3, f4, f5⟩ := rs_166_107 hw ha he x2 x3 x4 k (u + 1) f (ab_pay ow a u s) N1 (by omega) (by omega) (rf_O_f hO (e4 97 (by decide))) (fun o ho => by rw [e4 112 (by decide)]; exact hI o ho) e2 e3 (fun o h1 h2 => by rw [ab_pay_n (by omega)]; exact hc o (by omega) h2) (by
        rw [ab_pay_m, ab_need_eq k (u + 1) (fun o ho => ab_pay_n (by omega))]
        simp only [h, true_and] at hm; omega)
      exact ⟨N2, f1, f2, f3, fr_tr e4 f4, fs_tr e5 f5⟩
    · rw [if_neg h, if_pos rfl]
      simp only [ab_pays, if_neg h]
      unfold fd_166_131
      rw [nI_1]
      exact rs_166_107 hw ha he x2 x3 x4 k (u + 1) f s N (by omega) (by omega) hO hI hT hQ (fun o h1 h2 => hc o (by omega) h2) (by omega)
theorem cs_80 {u : Nat} (hI : cl_in M cl) (hu : u < 16) : fd_80 (nI u) M = some (if cl u = true then 1 else 0, M) := by
  unfold fd_80
  simp (disch := omega) only [pu_cl, pu_g2]
  by_cases h : cl u = true
  · rw [if_pos h, if_neg (fun e => by rw [(hI u hu).mp e] at h; cases h)]
  · rw [if_neg h, if_pos ((hI u hu).mpr (by simpa using h))]
theorem cs_99_55 (hw : ∀ o a, ow o = some a → a < 4) (ha : a < 4) (he : ∀ o, o < 16 → cl o = true → ow o ≠ none) (x2 x3 x4 : Int32) : ∀ (k u f : Nat) (s : (Nat → Nat → Int) × ct_Q × Nat) (M : am_M), u + k = 16 → k < f → cl_O M ow → cl_in M cl → cl_T M s.1 → cl_Q M pl s.2.1 s.2.2 → (∀ o, u ≤ o → o < 16 → en_w (s.1 a o)) → s.2.2 + ab_need cl ow s.1 a k u ≤ 20 → ∃ M', fd_99_55 f (nI a) x2 x3 x4 (nI u) M = fd_66 0 x2 x3 x4 M' ∧ cl_T M' (ab_pays cl ow a k u s).1 ∧ cl_Q M' pl (ab_pays cl ow a k u s).2.1 (ab_pays cl ow a k u s).2.2 ∧ fr_ [83, 84, 85, 86, 87, 88] M M'
  | _, _, 0, _, _, _, hf, _, _, _, _, _, _ => by omega
  | 0, u, f + 1, s, M, hu, _, hO, hI, hT, hQ, hc, hm => by
    refine ⟨M, ?_, hT, hQ, fr_refl _ _⟩
    rw [un_99_55]
    simp (disch := omega) only [pu_y16, Option.bind_fun_some]
  | k + 1, u, f + 1, s, M, hu, hf, hO, hI, hT, hQ, hc, hm => by
    rw [un_99_55]
    simp (disch := omega) only [pu_x16]
    rw [cs_80 hI (show u < 16 by omega), Option.bind_some]
    rw [ab_need] at hm
    by_cases h : cl u = true
    · simp only [if_pos h, if_neg pu_10]
      simp only [ab_pays, if_pos h]
      obtain ⟨N1, e1, e2, e3, e4⟩ := cs_102 (s := s) hw ha (show u < 16 by omega) hO hT hQ (he u (by omega) h) (hc u (Nat.le_refl _) (by omega)) (fun g1 g2 => by
        rw [if_pos ⟨h, g1, g2⟩] at hm; omega)
      rw [e1]
      simp only [Option.bind_some]
      unfold fd_99_81
      rw [nI_1]
      obtain ⟨N2, f1, f2, f3, f4⟩ := cs_99_55 hw ha he x2 x3 x4 k (u + 1) f (ab_pay ow a u s) N1 (by omega) (by omega) (cl_O_f hO (e4 80 (by decide))) (fun o ho => by rw [e4 90 (by decide)]; exact hI o ho) e2 e3 (fun o h1 h2 => by rw [ab_pay_n (by omega)]; exact hc o (by omega) h2) (by
        rw [ab_pay_m, ab_need_eq k (u + 1) (fun o ho => ab_pay_n (by omega))]
        simp only [h, true_and] at hm; omega)
      exact ⟨N2, f1, f2, f3, fr_tr e4 f4⟩
    · simp only [if_neg h, if_true]
      simp only [ab_pays, if_neg h]
      unfold fd_99_81
      rw [nI_1]
      exact cs_99_55 hw ha he x2 x3 x4 k (u + 1) f s M (by omega) (by omega) hO hI hT hQ (fun o h1 h2 => hc o (by omega) h2) (by omega)
end
