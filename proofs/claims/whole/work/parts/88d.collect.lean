/-! collect on both sides -/
section
variable {pl : Nat → Nat → Option Nat} {ow : Nat → Option Nat} {ct : Nat → Nat → Int} {q : ct_Q} {m a n : Nat} {cl : Nat → Bool}
theorem ab_gs_1 {k u : Nat} {s : (Nat → Nat → Int) × ct_Q × Nat} (h : ow u ≠ none ∧ ow u ≠ some a ∧ cl u = false ∧ s.1 a u ≠ 0 ∧ s.2.2 < 20) : ab_gs cl ow a (k + 1) u s = ab_gs cl ow a k (u + 1) (gh_u s.1 a u 0, ct_ap s.2.1 s.2.2 (2, (ow u).getD 0, u, s.1 a u, fun _ => false), s.2.2 + 1) := by rw [ab_gs, if_pos h]
theorem ab_gs_0 {k u : Nat} {s : (Nat → Nat → Int) × ct_Q × Nat} (h : ¬ (ow u ≠ none ∧ ow u ≠ some a ∧ cl u = false ∧ s.1 a u ≠ 0 ∧ s.2.2 < 20)) : ab_gs cl ow a (k + 1) u s = ab_gs cl ow a k (u + 1) s := by rw [ab_gs, if_neg h]
theorem rs_168_85 (ho : ∀ o a, ow o = some a → a < 4) (ha : a < 4) (x2 : Int32) : ∀ (k u f : Nat) (s : (Nat → Nat → Int) × ct_Q × Nat) (N : am_M), u + k = 16 → k < f → (∀ o, u ≤ o → o < 16 → en_w (s.1 a o)) → rf_in N cl → rf_O N ow → rf_T N s.1 → rf_Q N pl s.2.1 s.2.2 → ∃ N', fd_168_85 f (nI a) x2 (nI u) N = some (x2, N') ∧ rf_T N' (ab_gs cl ow a k u s).1 ∧ rf_Q N' pl (ab_gs cl ow a k u s).2.1 (ab_gs cl ow a k u s).2.2 ∧ fr_ [96, 100, 108, 109, 110, 111] N N' ∧ fs_ [15] N N'
  | _, _, 0, _, _, _, hf, _, _, _, _, _ => by omega
  | 0, u, f + 1, s, N, hu, _, hc, hI, hO, hT, hQ => by
    refine ⟨N, ?_, hT, hQ, fr_refl _ _, fs_refl _ _⟩
    rw [un_168_85]
    exact pu_y16 (by omega) (by omega)
  | k + 1, u, f + 1, s, N, hu, hf, hc, hI, hO, hT, hQ => by
    rw [un_168_85]
    simp (disch := omega) only [pu_x16, pu_16, pu_cl, pu_g2]
    unfold fd_168_173
    rw [nI_1]
    have h20 := hQ.2.1
    have em1 : N 97 u = -1 ↔ ow u = none := by rw [hO u (by omega)]; exact en_o_m1 (ow_lt ho u)
    have e97 : N 97 u = nI a ↔ ow u = some a := by rw [hO u (by omega)]; exact en_o_nI (by omega) (ow_lt ho u)
    have e112 : N 112 u = 0 ↔ cl u = false := by rw [hI u (by omega)]; cases cl u <;> simp
    have e100 : N 100 (16 * a + u) = 0 ↔ s.1 a u = 0 := by rw [hT a u ha (by omega)]; exact en_0 _ (hc u (Nat.le_refl _) (by omega))
    have e20 : (20 : Int32) ≤ N 96 15 ↔ 20 ≤ s.2.2 := by rw [hQ.1]; exact pu_le (a := 20) (by decide) (by omega)
    have skip : ¬ (ow u ≠ none ∧ ow u ≠ some a ∧ cl u = false ∧ s.1 a u ≠ 0 ∧ s.2.2 < 20) → ∃ N', fd_168_85 f (nI a) x2 (nI (u + 1)) N = some (x2, N') ∧ rf_T N' (ab_gs cl ow a (k + 1) u s).1 ∧ rf_Q N' pl (ab_gs cl ow a (k + 1) u s).2.1 (ab_gs cl ow a (k + 1) u s).2.2 ∧ fr_ [96, 100, 108, 109, 110, 111] N N' ∧ fs_ [15] N N' := by
      intro hs
      rw [ab_gs_0 hs]
      exact rs_168_85 ho ha x2 k (u + 1) f s N (by omega) (by omega) (fun o h1 h2 => hc o (by omega) h2) hI hO hT hQ
    by_cases h0 : ow u = none
    · rw [if_pos (em1.mpr h0)]; exact skip (fun h => h.1 h0)
    rw [if_neg (fun e => h0 (em1.mp e))]
    by_cases h1 : ow u = some a
    · rw [if_pos (e97.mpr h1)]; exact skip (fun h => h.2.1 h1)
    rw [if_neg (fun e => h1 (e97.mp e))]
    by_cases h2 : cl u = false
    · rw [if_pos (e112.mpr h2)]
      by_cases h3 : s.1 a u = 0
      · rw [if_pos (e100.mpr h3)]; exact skip (fun h => h.2.2.2.1 h3)
      rw [if_neg (fun e => h3 (e100.mp e))]
      by_cases h4 : 20 ≤ s.2.2
      · rw [if_pos (e20.mpr h4)]; exact skip (fun h => by have := h.2.2.2.2; omega)
      rw [if_neg (fun e => h4 (e20.mp e)), hT a u ha (by omega)]
      rw [ab_gs_1 ⟨h0, h1, h2, h3, by omega⟩]
      cases hb : ow u with
      | none => exact absurd hb h0
      | some b =>
        have e : N 97 u = nI b := by rw [hO u (by omega), hb]; rfl
        rw [e]
        obtain ⟨N1, g1, g2, g3, g4⟩ := rs_155 (pl' := pl) hQ (by omega) (2, b, u, s.1 a u, fun _ => false) (fun _ _ => rfl) (a1 := 2) (a2 := nI b) (a3 := nI u) (a4 := en_i (s.1 a u)) rfl rfl rfl rfl
        rw [g1, Option.bind_some]
        have hT1 := rf_T_f hT (g3 100 (by decide))
        obtain ⟨N2, k1, k2, k3, k4, k5⟩ := rs_168_85 ho ha x2 k (u + 1) f (gh_u s.1 a u 0, ct_ap s.2.1 s.2.2 (2, b, u, s.1 a u, fun _ => false), s.2.2 + 1) (ds_w N1 100 (16 * a + u) (en_i 0)) (by omega) (by omega) (fun o h1 h2 => by show en_w (gh_u s.1 a u 0 a o); rw [gh_u_n _ _ (by omega)]; exact hc o (by omega) h2) (fun o h => by rw [dw_r _ _ _ (by decide), g3 112 (by decide)]; exact hI o h) (rf_O_f hO (by rw [dw_r _ _ _ (by decide), g3 97 (by decide)])) (rf_T_w hT1 ha (by omega) 0) (rf_Q_f g2 (by rw [dw_r _ _ _ (by decide)]) (dw_r _ _ _ (by decide)) (dw_r _ _ _ (by decide)) (dw_r _ _ _ (by decide)) (dw_r _ _ _ (by decide)))
        exact ⟨N2, k1, k2, k3, fr_tr (fr_w (fr_up g3 (by simp)) (by decide)) k4, fs_tr (fs_w g4 (by simp)) k5⟩
    · rw [if_neg (fun e => h2 (e112.mp e))]; exact skip (fun h => h2 h.2.2.1)
theorem cs_104_80 (ho : ∀ o a, ow o = some a → a < 4) (ha : a < 4) (x2 : Int32) : ∀ (k u f : Nat) (s : (Nat → Nat → Int) × ct_Q × Nat) (M : am_M), u + k = 16 → k < f → (∀ o, u ≤ o → o < 16 → en_w (s.1 a o)) → cl_in M cl → cl_O M ow → cl_T M s.1 → cl_Q M pl s.2.1 s.2.2 → ∃ M', fd_104_80 f (nI a) x2 (nI u) M = some (x2, M') ∧ cl_T M' (ab_gs cl ow a k u s).1 ∧ cl_Q M' pl (ab_gs cl ow a k u s).2.1 (ab_gs cl ow a k u s).2.2 ∧ fr_ [83, 84, 85, 86, 87, 88] M M'
  | _, _, 0, _, _, _, hf, _, _, _, _, _ => by omega
  | 0, u, f + 1, s, M, hu, _, hc, hI, hO, hT, hQ => by
    refine ⟨M, ?_, hT, hQ, fr_refl _ _⟩
    rw [un_104_80]
    simp (disch := omega) only [pu_y16]
  | k + 1, u, f + 1, s, M, hu, hf, hc, hI, hO, hT, hQ => by
    rw [un_104_80]
    simp (disch := omega) only [pu_x16]
    unfold fd_104_124
    rw [nI_1, cs_106 ho hO hI (show u < 16 by omega), Option.bind_some]
    have h20 := hQ.2.1
    have e80 : M 80 u = nI a ↔ ow u = some a := by rw [hO u (by omega)]; exact en_o_nI (by omega) (ow_lt ho u)
    have e83 : M 83 (a * 16 + u) = 0 ↔ s.1 a u = 0 := by rw [hT a u ha (by omega)]; exact en_0 _ (hc u (Nat.le_refl _) (by omega))
    have skip : ¬ (ow u ≠ none ∧ ow u ≠ some a ∧ cl u = false ∧ s.1 a u ≠ 0 ∧ s.2.2 < 20) → ∃ M', fd_104_80 f (nI a) x2 (nI (u + 1)) M = some (x2, M') ∧ cl_T M' (ab_gs cl ow a (k + 1) u s).1 ∧ cl_Q M' pl (ab_gs cl ow a (k + 1) u s).2.1 (ab_gs cl ow a (k + 1) u s).2.2 ∧ fr_ [83, 84, 85, 86, 87, 88] M M' := by
      intro hs
      rw [ab_gs_0 hs]
      exact cs_104_80 ho ha x2 k (u + 1) f s M (by omega) (by omega) (fun o h1 h2 => hc o (by omega) h2) hI hO hT hQ
    by_cases h02 : ow u ≠ none ∧ cl u = false
    · simp only [if_pos h02, if_neg pu_10]
      rw [sp_81 (show u < 16 by omega), Option.bind_some]
      by_cases h1 : ow u = some a
      · simp only [if_pos (e80.mpr h1)]; exact skip (fun h => h.2.1 h1)
      simp only [if_neg (fun e => h1 (e80.mp e))]
      rw [sp_101 ha (show u < 16 by omega), Option.bind_some]
      by_cases h3 : s.1 a u = 0
      · simp only [if_pos (e83.mpr h3)]; exact skip (fun h => h.2.2.2.1 h3)
      simp only [if_neg (fun e => h3 (e83.mp e))]
      unfold fd_109 fd_65
      simp only [Option.bind_some]
      rw [hQ.1, show (20 : Int32) - nI s.2.2 = nI (20 - s.2.2) from pk_sub (a := 20) h20]
      by_cases h4 : 20 ≤ s.2.2
      · rw [if_neg (show ¬ (1 : Int32) ≤ nI (20 - s.2.2) from fun e => by have := (pu_le (a := 1) (by decide) (by omega)).mp e; omega), Option.bind_some]
        exact skip (fun h => by have := h.2.2.2.2; omega)
      rw [if_pos (show (1 : Int32) ≤ nI (20 - s.2.2) from (pu_le (a := 1) (by decide) (by omega)).mpr (by omega))]
      rw [sp_101 ha (show u < 16 by omega), Option.bind_some]
      simp only []
      rw [sp_81 (show u < 16 by omega), Option.bind_some]
      simp only [hT a u ha (show u < 16 by omega)]
      rw [ab_gs_1 ⟨h02.1, h1, h02.2, h3, by omega⟩]
      cases hb : ow u with
      | none => exact absurd hb h02.1
      | some b =>
        have e : M 80 u = nI b := by rw [hO u (by omega), hb]; rfl
        rw [e]
        obtain ⟨N1, g1, g2, g3⟩ := cs_66 (pl' := pl) hQ (by omega) (2, b, u, s.1 a u, fun _ => false) (fun _ _ => rfl) (a1 := 2) (a2 := nI b) (a3 := nI u) (a4 := en_i (s.1 a u)) rfl rfl rfl rfl
        rw [g1, Option.bind_some]
        have hT1 := cl_T_f hT (g3 83 (by decide))
        obtain ⟨N1', j1, j2, j3⟩ := cs_82 ha (show u < 16 by omega) hT1 (v := - en_i (s.1 a u)) (w := - s.1 a u) (en_i_neg _).symm
        rw [j1, Option.bind_some, Option.bind_some]
        rw [show s.1 a u + - s.1 a u = 0 by omega] at j2
        obtain ⟨N2, k1, k2, k3, k4⟩ := cs_104_80 ho ha x2 k (u + 1) f (gh_u s.1 a u 0, ct_ap s.2.1 s.2.2 (2, b, u, s.1 a u, fun _ => false), s.2.2 + 1) N1' (by omega) (by omega) (fun o h1 h2 => by show en_w (gh_u s.1 a u 0 a o); rw [gh_u_n _ _ (by omega)]; exact hc o (by omega) h2) (fun o h => by rw [j3 90 (by decide), g3 90 (by decide)]; exact hI o h) (cl_O_f hO (by rw [j3 80 (by decide), g3 80 (by decide)])) j2 (cl_Q_f g2 (j3 _ (by decide)) (j3 _ (by decide)) (j3 _ (by decide)) (j3 _ (by decide)) (j3 _ (by decide)))
        exact ⟨N2, k1, k2, k3, fr_tr (fr_tr (fr_up g3 (by simp)) (fr_up j3 (by simp))) k4⟩
    · simp only [if_neg h02, if_true]
      exact skip (fun h => h02 ⟨h.1, h.2.2.1⟩)
/-- the actors' fields: kept -/
theorem gh_kp_C1 {o : Nat} (h6 : ∀ h k t, h < 20 → pl h k = some t → k < 6) (ha : a < 4) : gh_kp pl a o ↔ gh_C1 pl (fun t c => 0 ≤ c ∧ c < 6 ∧ pl (16 + a) c = some t) o := by
  constructor
  · rintro ⟨k, t, h1, h2⟩; exact ⟨t, k, ⟨Nat.zero_le _, h6 _ _ _ (by omega) h1, h1⟩, h2⟩
  · rintro ⟨t, k, ⟨_, _, h1⟩, h2⟩; exact ⟨k, t, h1, h2⟩
theorem rs_168 {N : am_M} (hn : n ≤ 4) (ha : a < n) (hN : N 96 0 = nI n) (hw : ∀ h k t, h < 20 → pl h k = some t → t < 16) (h6 : ∀ h k t, h < 20 → pl h k = some t → k < 6) (ho : ∀ o a, ow o = some a → a < 4) (hH : rf_H N pl) (hO : rf_O N ow) (hT : rf_T N ct) (hQ : rf_Q N pl q m) (hc : ∀ o, o < 16 → en_w (ct a o)) (hcl : ∀ o, o < 16 → (cl o = true ↔ gh_kp pl a o)) (hno : ∀ o, o < 16 → ow o = some a → cl o = false → ct a o = 0 → (∀ b k, b < 4 → pl (16 + b) k ≠ some o) ∧ ∀ i, i < m → pl 21 i ≠ some o) : ∃ N', fd_168 (nI a) N = some (nI (ab_fs cl ct a 16 0 (pl, ow, 0)).2.2, N') ∧ rf_H N' (ab_fs cl ct a 16 0 (pl, ow, 0)).1 ∧ rf_O N' (ab_fs cl ct a 16 0 (pl, ow, 0)).2.1 ∧ rf_T N' (ab_gs cl (ab_fs cl ct a 16 0 (pl, ow, 0)).2.1 a 16 0 (ct, q, m)).1 ∧ rf_Q N' (ab_fs cl ct a 16 0 (pl, ow, 0)).1 (ab_gs cl (ab_fs cl ct a 16 0 (pl, ow, 0)).2.1 a 16 0 (ct, q, m)).2.1 (ab_gs cl (ab_fs cl ct a 16 0 (pl, ow, 0)).2.1 a 16 0 (ct, q, m)).2.2 ∧ fr_ [96, 97, 99, 100, 108, 109, 110, 111, 112, 113] N N' ∧ fs_ [15] N N' := by
  unfold fd_168
  rw [hN, sp_148 ha (by omega), Option.bind_some]
  simp only [if_neg pu_10]
  obtain ⟨N1, e1, e2, e3⟩ := rs_158 N
  rw [e1, Option.bind_some]
  obtain ⟨N2, s2, f1, f2, f3, f4⟩ := rs_169_2 (pl := pl) (a := a) hw (by omega) 6 0 1000 N1 (fun _ => false, fun _ => false) (fun _ _ => False) rfl (by decide) e2 (rf_H_f hH (e3 _ (by decide)) (e3 _ (by decide))) rt_R_0
  rw [show fd_169 (nI a) N1 = some N2 from f1, Option.bind_some]
  have fr2 := fr_tr e3 f3
  obtain ⟨N3, g1, g2, g3⟩ := rs_clo (R := fun t c => 0 ≤ c ∧ c < 6 ∧ pl (16 + a) c = some t) (cl := cl) hw (fun p k t hp ht => h6 p k t (by omega) ht) f2 (rf_H_f hH (fr2 _ (by decide)) (fr2 _ (by decide))) (rt_R_eq f4 (fun o c => by simp)) (fun o h => by rw [hcl o h]; exact gh_kp_C1 h6 (by omega))
  rw [g1, Option.bind_some]
  have fr3 := fr_tr fr2 g3
  obtain ⟨N4, k1, k2, k3, k4, k5, k6, k7⟩ := rs_168_30 (q := q) (m := m) (cl := cl) (show a < 4 by omega) hc 16 0 1000 (pl, ow, 0) N3 rfl (by decide) hw ho g2 (rf_H_f hH (fr3 _ (by decide)) (fr3 _ (by decide))) (rf_O_f hO (fr3 _ (by decide))) (rf_T_f hT (fr3 _ (by decide))) (rf_Q_f hQ (by rw [fr3 96 (by decide)]) (fr3 _ (by decide)) (fr3 _ (by decide)) (fr3 _ (by decide)) (fr3 _ (by decide))) hno
  have ho' : ∀ o b, (ab_fs cl ct a 16 0 (pl, ow, 0)).2.1 o = some b → b < 4 := by
    have : ∀ k u (s : (Nat → Nat → Option Nat) × (Nat → Option Nat) × Nat), (∀ o b, s.2.1 o = some b → b < 4) → ∀ o b, (ab_fs cl ct a k u s).2.1 o = some b → b < 4 := by
      intro k
      induction k with
      | zero => intro u s h; exact h
      | succ k ih =>
        intro u s h
        rw [ab_fs]
        split
        · exact ih _ _ (fun o b g => h o b (ab_fow_le g))
        · exact ih _ _ h
    exact this 16 0 _ ho
  obtain ⟨N5, j1, j2, j3, j4, j5⟩ := rs_168_85 (pl := (ab_fs cl ct a 16 0 (pl, ow, 0)).1) (cl := cl) ho' (show a < 4 by omega) (nI (ab_fs cl ct a 16 0 (pl, ow, 0)).2.2) 16 0 1000 (ct, q, m) N4 rfl (by decide) (fun o _ h => hc o h) k2 k4 k5 k6
  refine ⟨N5, ?_, rf_H_f k3 (j4 _ (by decide)) (j4 _ (by decide)), rf_O_f k4 (j4 _ (by decide)), j2, j3, ?_, ?_⟩
  · exact k1.trans j1
  · exact fr_tr (fr_tr (fr_up fr3 (by simp)) (fr_up k7 (by simp))) (fr_up j4 (by simp))
  · exact fs_tr (fs_tr (fs_of fr3 (by decide)) (fs_of k7 (by decide))) j5
theorem cs_103 {M : am_M} {ce : Nat → Int32} (hn : n ≤ 4) (ha : a < n) (hM : M 0 0 = nI n) (hw : ∀ h k t, h < 20 → pl h k = some t → t < 16) (h6 : ∀ h k t, h < 20 → pl h k = some t → k < 6) (ho : ∀ o a, ow o = some a → a < 4) (hH : cl_H M pl ow) (hO : cl_O M ow) (hT : cl_T M ct) (hQ : cl_Q M pl q m) (hC : cl_C M ow ce) (hc : ∀ o, o < 16 → en_w (ct a o)) (hl : ∀ p, p < 16 → gh_kd pl a p → ow p ≠ none) (hcl : ∀ o, o < 16 → (cl o = true ↔ gh_kp pl a o)) (hno : ∀ o, o < 16 → ow o = some a → cl o = false → ct a o = 0 → (∀ b k, b < 4 → pl (16 + b) k ≠ some o) ∧ ∀ i, i < m → pl 21 i ≠ some o) : ∃ M', fd_103 (nI a) M = some (nI (ab_fs cl ct a 16 0 (pl, ow, 0)).2.2, M') ∧ cl_H M' (ab_fs cl ct a 16 0 (pl, ow, 0)).1 (ab_fs cl ct a 16 0 (pl, ow, 0)).2.1 ∧ cl_O M' (ab_fs cl ct a 16 0 (pl, ow, 0)).2.1 ∧ cl_T M' (ab_gs cl (ab_fs cl ct a 16 0 (pl, ow, 0)).2.1 a 16 0 (ct, q, m)).1 ∧ cl_Q M' (ab_fs cl ct a 16 0 (pl, ow, 0)).1 (ab_gs cl (ab_fs cl ct a 16 0 (pl, ow, 0)).2.1 a 16 0 (ct, q, m)).2.1 (ab_gs cl (ab_fs cl ct a 16 0 (pl, ow, 0)).2.1 a 16 0 (ct, q, m)).2.2 ∧ cl_C M' (ab_fs cl ct a 16 0 (pl, ow, 0)).2.1 ce ∧ fr_ [80, 82, 83, 84, 85, 86, 87, 88, 89, 90, 91] M M' := by
  unfold fd_103
  rw [sp_63 hn ha hM, Option.bind_some]
  simp only [if_neg pu_10]
  obtain ⟨M1, e1, e2, e3⟩ := cs_76 M
  obtain ⟨M2, mb2, w2, z2, f1, f2, f3, f4⟩ := cs_105_2 (pl := pl) (ow := ow) (a := a) hw (by omega) 6 0 1000 M1 _ _ _ (fun _ _ => False) rfl (by decide) e2 (cl_H_f hH (e3 _ (by decide))) mt_R_0
  have fr2 := fr_tr e3 f3
  obtain ⟨M3, g1, g2, g3⟩ := cs_clo (R := fun t c => 0 ≤ c ∧ c < 6 ∧ pl (16 + a) c = some t) (cl := cl) (ow := ow) hw (fun p k t hp ht => h6 p k t (by omega) ht) f2 (cl_H_f hH (fr2 _ (by decide))) (mt_R_eq f4 (fun o c => by simp)) (fun t c h => h.2.1) (fun p hp ⟨t, k, ⟨_, _, h1⟩, h3, h4⟩ => hl p hp ⟨k, t, h3, h1, h4⟩) (fun o h => by rw [hcl o h]; exact gh_kp_C1 h6 (by omega))
  have fr3 := fr_tr fr2 g3
  obtain ⟨M4, k1, k2, k3, k4, k5, k6, k7, k8⟩ := cs_104_23 (q := q) (m := m) (cl := cl) (ce := ce) (show a < 4 by omega) hc 16 0 1000 (pl, ow, 0) M3 rfl (by decide) hw ho g2 (cl_H_f hH (fr3 _ (by decide))) (cl_O_f hO (fr3 _ (by decide))) (cl_T_f hT (fr3 _ (by decide))) (cl_Q_f hQ (fr3 _ (by decide)) (fr3 _ (by decide)) (fr3 _ (by decide)) (fr3 _ (by decide)) (fr3 _ (by decide))) (fun o h hl => by rw [fr3 81 (by decide)]; exact hC o h hl) hno
  have ho' : ∀ o b, (ab_fs cl ct a 16 0 (pl, ow, 0)).2.1 o = some b → b < 4 := by
    have : ∀ k u (s : (Nat → Nat → Option Nat) × (Nat → Option Nat) × Nat), (∀ o b, s.2.1 o = some b → b < 4) → ∀ o b, (ab_fs cl ct a k u s).2.1 o = some b → b < 4 := by
      intro k
      induction k with
      | zero => intro u s h; exact h
      | succ k ih =>
        intro u s h
        rw [ab_fs]
        split
        · exact ih _ _ (fun o b g => h o b (ab_fow_le g))
        · exact ih _ _ h
    exact this 16 0 _ ho
  obtain ⟨M5, j1, j2, j3, j4⟩ := cs_104_80 (pl := (ab_fs cl ct a 16 0 (pl, ow, 0)).1) (cl := cl) ho' (show a < 4 by omega) (nI (ab_fs cl ct a 16 0 (pl, ow, 0)).2.2) 16 0 1000 (ct, q, m) M4 rfl (by decide) (fun o _ h => hc o h) k2 k4 k5 k6
  have e104 : fd_104 (nI a) M = some (nI (ab_fs cl ct a 16 0 (pl, ow, 0)).2.2, M5) := by
    unfold fd_104
    rw [e1, Option.bind_some, show fd_105 (nI a) M1 = some M2 from f1, Option.bind_some, g1, Option.bind_some]
    exact k1.trans j1
  rw [e104, Option.bind_some]
  refine ⟨M5, rfl, cl_H_f k3 (j4 _ (by decide)), cl_O_f k4 (j4 _ (by decide)), j2, j3, ?_, ?_⟩
  · exact fun o h hl => by rw [j4 81 (by decide)]; exact k7 o h hl
  · exact fr_tr (fr_tr (fr_up fr3 (by simp)) (fr_up k8 (by simp))) (fr_up j4 (by simp))
end
