/-! The effect, dispatched: reference -/
theorem pu_a2 (a : Nat) : nI a + (2 : Int32) = nI (a + 2) := nI_add a 2
theorem pu_a3 (a : Nat) : nI a + (3 : Int32) = nI (a + 3) := nI_add a 3
theorem pu_a4 (a : Nat) : nI a + (4 : Int32) = nI (a + 4) := nI_add a 4
theorem pu_a5 (a : Nat) : nI a + (5 : Int32) = nI (a + 5) := nI_add a 5
theorem gh_vw6 {c f : Nat} (hc : c < 5) (hf : f < 6) : gh_vw c f < 6 := by
  rcases lt6 hf with rfl | rfl | rfl | rfl | rfl | rfl <;> rcases lt5 hc with rfl | rfl | rfl | rfl | rfl <;> decide
theorem gh_dw6 {c f : Nat} (hc : c < 3) (hf : f < 6) : gh_dw c f < 6 := by
  rcases lt6 hf with rfl | rfl | rfl | rfl | rfl | rfl <;> rcases lt3 hc with rfl | rfl | rfl <;> decide
/-- what is known of the capabilities of an accepted statement -/
theorem st_acc {pr : Nat → Nat} {t : ty_T} {bg j x y f z : Nat} (hw : ty_w t) (hrg : sm_rg bg j x y f z) (ha : st_re pr t j y f z = 0) : (st_uy j = true → ∃ c, ty_c t y = some c ∧ c < 6 ∧ (j = 3 ∨ j = 7 → c < 5) ∧ (j = 4 ∨ j = 5 ∨ j = 6 → c < 3) ∧ (y ≠ 6 → t.1 y = some c)) ∧ (st_uz j = true → ∃ c, t.1 z = some c ∧ c < 6) ∧ (j = 4 → ∀ cy cz, ty_c t y = some cy → t.1 z = some cz → gh_sa (gh_al cz) cy ∧ gh_su (gh_al cz) f) ∧ (j = 5 → ∀ cy cz, ty_c t y = some cy → t.1 z = some cz → gh_sa cz cy ∧ gh_su cz f) ∧ (j = 8 → ∀ cz, t.1 z = some cz → gh_su cz (pr y)) := by
  obtain ⟨rj, rx, ry, r8, rf, rz⟩ := hrg
  obtain ⟨a1, a2, a3, a4, a5, a6⟩ := st_re_0 ha
  have cz' : st_uz j = true → ty_c t z = t.1 z := fun u => by
    have := rz u; unfold ty_c; rw [if_neg (by omega)]
  refine ⟨fun u => ?_, fun u => ?_, fun e cy cz h1 h2 => ?_, fun e cy cz h1 h2 => ?_, fun e cz h2 => ?_⟩
  · obtain ⟨_, c, hc⟩ := a3 u
    refine ⟨c, hc, ty_c6 hw hc, fun e => ?_, fun e => ?_, fun n6 => ?_⟩
    · rw [hc] at a6; unfold st_tl at a6; rw [if_pos e] at a6
      by_cases g : c < 5
      · exact g
      · rw [if_neg (show ¬ (some c).getD 0 < 5 from g)] at a6; cases a6
    · rw [hc] at a6; unfold st_tl at a6; rw [if_neg (show ¬ (j = 3 ∨ j = 7) by omega)] at a6
      by_cases g : c < 3
      · exact g
      · have g' : ¬ (some c).getD 0 < 3 := g
        rcases e with e | e | e
        · rw [if_neg (show ¬ j = 6 by omega), if_pos e, if_neg g'] at a6; cases a6
        · rw [if_neg (show ¬ j = 6 by omega), if_neg (show ¬ j = 4 by omega), if_pos e, if_neg g'] at a6; cases a6
        · rw [if_pos e, if_neg g'] at a6; cases a6
    · unfold ty_c at hc; rw [if_neg n6] at hc; exact hc
  · obtain ⟨_, c, hc⟩ := a4 u
    rw [cz' u] at hc
    exact ⟨c, hc, hw.1 z c hc⟩
  · have u : st_uz j = true := by rw [e]; rfl
    have h2' : ty_c t z = some cz := by rw [cz' u, h2]
    rw [h1, h2'] at a6; unfold st_tl at a6
    rw [if_neg (show ¬ (j = 3 ∨ j = 7) by omega), if_neg (show ¬ j = 6 by omega), if_pos e] at a6
    change (if cy < 3 then (if st_sa (gh_al cz) cy = true then (if st_su (gh_al cz) f = true then 0 else 9) else 8) else 7) = 0 at a6
    by_cases g1 : cy < 3
    · rw [if_pos g1] at a6
      by_cases g2 : st_sa (gh_al cz) cy = true
      · rw [if_pos g2] at a6
        by_cases g3 : st_su (gh_al cz) f = true
        · exact ⟨st_sa_iff.mp g2, st_su_iff.mp g3⟩
        · rw [if_neg g3] at a6; cases a6
      · rw [if_neg g2] at a6; cases a6
    · rw [if_neg g1] at a6; cases a6
  · have u : st_uz j = true := by rw [e]; rfl
    have h2' : ty_c t z = some cz := by rw [cz' u, h2]
    rw [h1, h2'] at a6; unfold st_tl at a6
    rw [if_neg (show ¬ (j = 3 ∨ j = 7) by omega), if_neg (show ¬ j = 6 by omega), if_neg (show ¬ j = 4 by omega), if_pos e] at a6
    change (if cy < 3 then (if st_sa cz cy = true then (if st_su cz f = true then 0 else 9) else 8) else 7) = 0 at a6
    by_cases g1 : cy < 3
    · rw [if_pos g1] at a6
      by_cases g2 : st_sa cz cy = true
      · rw [if_pos g2] at a6
        by_cases g3 : st_su cz f = true
        · exact ⟨st_sa_iff.mp g2, st_su_iff.mp g3⟩
        · rw [if_neg g3] at a6; cases a6
      · rw [if_neg g2] at a6; cases a6
    · rw [if_neg g1] at a6; cases a6
  · have u : st_uz j = true := by rw [e]; rfl
    have h2' : ty_c t z = some cz := by rw [cz' u, h2]
    rw [h2'] at a6; unfold st_tl at a6
    rw [if_neg (show ¬ (j = 3 ∨ j = 7) by omega), if_neg (show ¬ j = 6 by omega), if_neg (show ¬ j = 4 by omega), if_neg (show ¬ j = 5 by omega), if_pos e] at a6
    by_cases g3 : st_su cz (pr y) = true
    · exact st_su_iff.mp g3
    · rw [if_neg (show ¬ st_su ((some cz).getD 0) (pr y) = true from g3)] at a6; cases a6
section
variable {M N : am_M} {t : ty_T} {pr : Nat → Nat} {bg : Nat}
theorem rs_139 {y c : Nat} (H : rf_Y N t) (hy : y < 7) (hc : ty_c t y = some c) : fd_139 (nI y) N = some (nI c, N) := by
  unfold fd_139
  unfold ty_c at hc
  by_cases e6 : y = 6
  · rw [if_pos ((pu_e6 (by omega)).mpr e6)]
    rw [if_pos e6] at hc; injection hc with hc; rw [← hc]; rfl
  · rw [if_neg (fun g => e6 ((pu_e6 (by omega)).mp g))]
    simp (disch := omega) only [pu_cl, pu_g2]
    rw [if_neg e6] at hc
    rw [(H.1 y (by omega)).1, hc]; rfl
theorem rs_136 {op x y f z : Int32} {at' j x' y' f' z' : Nat} (H : rf_Y N t) (hw : ty_w t) (hat : at' + 4 < 300) (c0 : N 104 at' = op) (c1 : N 104 (at' + 1) = x) (c2 : N 104 (at' + 2) = y) (c3 : N 104 (at' + 3) = f) (c4 : N 104 (at' + 4) = z) (his : sm_is op x y f z j x' y' f' z') (hrg : sm_rg bg j x' y' f' z') (ha : st_re pr t j y' f' z' = 0) : ∃ N', fd_136 (nI at') N = some N' ∧ rf_Y N' (ty_ef j x' y' f' z' t) ∧ fr_ [96, 105, 106, 107] N N' ∧ fs_ [14] N N' := by
  obtain ⟨ac1, ac2, _, _, _⟩ := st_acc hw hrg ha
  obtain ⟨rfl, ix, iy, iff, iz⟩ := his
  obtain ⟨rj, rx, ry, r8, rf, rz⟩ := hrg
  have nj : ∀ k, k < 11 → (nI j = nI k ↔ j = k) := fun k hk => en_nI (by omega) (by omega)
  have bc : ∀ (N1 : am_M) (t1 : ty_T) (c : Nat), st_ux j = true → rf_Y N1 t1 → fr_ [96, 105, 106, 107] N N1 → fs_ [14] N N1 → ∃ N', ((fd_137 x (nI c) N1).bind fun q => some q) = some N' ∧ rf_Y N' (ty_bc x' c t1) ∧ fr_ [96, 105, 106, 107] N N' ∧ fs_ [14] N N' := by
    intro N1 t1 c u h1 h2 h3
    rw [ix u]
    obtain ⟨N', e1, e2, e3⟩ := rs_137 (c := c) h1 (rx u).1
    exact ⟨N', by rw [e1]; rfl, e2, fr_tr h2 (fr_up e3 (by simp)), fs_tr h3 (fs_of e3 (by decide))⟩
  unfold fd_136
  rw [nI_1, pu_a2, pu_a3, pu_a4, pu_cl (show at' < 1000 by omega), pu_cl (show at' + 1 < 1000 by omega), pu_cl (show at' + 2 < 1000 by omega), pu_cl (show at' + 3 < 1000 by omega), pu_cl (show at' + 4 < 1000 by omega), pu_g2 (show at' < 300 by omega) (by omega), pu_g2 (show at' + 1 < 300 by omega) (by omega), pu_g2 (show at' + 2 < 300 by omega) (by omega), pu_g2 (show at' + 3 < 300 by omega) (by omega), pu_g2 (show at' + 4 < 300 by omega) (by omega)]
  rw [c0, c1, c2, c3, c4]
  unfold ty_ef
  by_cases e0 : j = 0
  · rw [if_pos (show nI j = (0 : Int32) from (nj 0 (by decide)).mpr e0), if_pos e0, iff (by rw [e0]; rfl)]
    exact bc N t f' (by rw [e0]; rfl) H (fr_refl _ _) (fs_refl _ _)
  rw [if_neg (show ¬ nI j = (0 : Int32) from fun g => e0 ((nj 0 (by decide)).mp g)), if_neg e0]
  by_cases e1 : j = 1
  · have u : st_uy j = true := by rw [e1]; rfl
    obtain ⟨c, hc, c6, _, _, h6⟩ := ac1 u
    obtain ⟨y7, y6⟩ := ry u
    have hty := h6 (by omega)
    rw [if_pos (show nI j = (1 : Int32) from (nj 1 (by decide)).mpr e1), if_pos e1, iy (Or.inl u)]
    simp (disch := omega) only [pu_cl, pu_g2]
    rw [(H.1 y' (by omega)).1, hty, en_o_s, rs_138 c6, Option.bind_some]
    exact bc N t (gh_al c) (by rw [e1]; rfl) H (fr_refl _ _) (fs_refl _ _)
  rw [if_neg (show ¬ nI j = (1 : Int32) from fun g => e1 ((nj 1 (by decide)).mp g)), if_neg e1]
  by_cases e2 : j = 2
  · have u : st_uy j = true := by rw [e2]; rfl
    obtain ⟨c, hc, c6, _, _, h6⟩ := ac1 u
    obtain ⟨y7, y6⟩ := ry u
    have hty := h6 (by omega)
    rw [if_pos (show nI j = (2 : Int32) from (nj 2 (by decide)).mpr e2), if_pos e2, iy (Or.inl u)]
    simp (disch := omega) only [pu_cl, pu_g2]
    rw [(H.1 y' (by omega)).1, hty, en_o_s]
    exact bc _ (ty_em y' t) c (by rw [e2]; rfl) (rf_Y_em H (by omega)) (fr_w (fr_refl _ _) (by decide)) (fs_w (fs_refl _ _) (by simp))
  rw [if_neg (show ¬ nI j = (2 : Int32) from fun g => e2 ((nj 2 (by decide)).mp g)), if_neg e2]
  by_cases e3 : j = 3
  · have u : st_uy j = true := by rw [e3]; rfl
    have uf : st_uf j = true := by rw [e3]; rfl
    obtain ⟨c, hc, c6, h5, _, _⟩ := ac1 u
    have c5 := h5 (Or.inl e3)
    rw [if_pos (show nI j = (3 : Int32) from (nj 3 (by decide)).mpr e3), if_pos e3, iy (Or.inl u), iff uf, rs_139 H (ry u).1 hc, Option.bind_some]
    simp only []
    rw [rs_140 c5 (rf uf), Option.bind_some]
    simp only []
    rw [rs_138 (gh_vw6 c5 (rf uf)), Option.bind_some, hc]
    exact bc N t _ (by rw [e3]; rfl) H (fr_refl _ _) (fs_refl _ _)
  rw [if_neg (show ¬ nI j = (3 : Int32) from fun g => e3 ((nj 3 (by decide)).mp g)), if_neg e3]
  by_cases e5 : j = 5
  · have u : st_uy j = true := by rw [e5]; rfl
    have uf : st_uf j = true := by rw [e5]; rfl
    have uz : st_uz j = true := by rw [e5]; rfl
    obtain ⟨c, hc, c6, _, h3, _⟩ := ac1 u
    have c3 := h3 (Or.inr (Or.inl e5))
    have z6 := rz uz
    rw [if_pos (show nI j = (5 : Int32) from (nj 5 (by decide)).mpr e5), if_pos e5, iy (Or.inl u), iff uf, rs_139 H (ry u).1 hc, Option.bind_some]
    simp only []
    rw [rs_142 c3 (rf uf), Option.bind_some, iz uz, hc]
    simp (disch := omega) only [pu_cl, pu_g2]
    exact bc _ (ty_em z' t) _ (by rw [e5]; rfl) (rf_Y_em H z6) (fr_w (fr_refl _ _) (by decide)) (fs_w (fs_refl _ _) (by simp))
  rw [if_neg (show ¬ nI j = (5 : Int32) from fun g => e5 ((nj 5 (by decide)).mp g)), if_neg e5]
  by_cases e8 : j = 8
  · have uz : st_uz j = true := by rw [e8]; rfl
    have z6 := rz uz
    rw [if_pos (show nI j = (8 : Int32) from (nj 8 (by decide)).mpr e8), if_pos e8, iz uz]
    simp (disch := omega) only [pu_cl, pu_g2]
    exact ⟨_, rfl, rf_Y_em H z6, fr_w (fr_refl _ _) (by decide), fs_w (fs_refl _ _) (by simp)⟩
  rw [if_neg (show ¬ nI j = (8 : Int32) from fun g => e8 ((nj 8 (by decide)).mp g)), if_neg e8]
  by_cases e9 : j = 9
  · rw [if_pos (show nI j = (9 : Int32) from (nj 9 (by decide)).mpr e9), if_pos e9]
    obtain ⟨N', g1, g2, g3⟩ := rs_136_213 hw 6 0 1000 (ds_w N 96 14 1) rfl (by decide) (fun k hk => by rw [dw_r _ _ _ (by decide)]; exact (H.1 k hk).1) (fun k hk => by omega)
    refine ⟨N', g1, ⟨fun k hk => ⟨?_, (g2 k hk).1, (g2 k hk).2⟩, ?_⟩, fr_tr (fr_w (fr_refl _ _) (by decide)) (fr_up g3 (by simp)), fs_tr (fs_w (fs_refl _ _) (by simp)) (fs_of g3 (by decide))⟩
    · rw [g3 105 (by decide), dw_r _ _ _ (by decide)]; exact (H.1 k hk).1
    · rw [g3 96 (by decide), dw_s]; rfl
  rw [if_neg (show ¬ nI j = (9 : Int32) from fun g => e9 ((nj 9 (by decide)).mp g)), if_neg e9]
  by_cases e10 : j = 10
  · have u : st_uy j = true := by rw [e10]; rfl
    have ux : st_ux j = true := by rw [e10]; rfl
    obtain ⟨c, hc, c6, _, _, h6⟩ := ac1 u
    obtain ⟨y7, y6⟩ := ry u
    have hty := h6 (by omega)
    rw [if_pos (show nI j = (10 : Int32) from (nj 10 (by decide)).mpr e10), if_pos e10, iy (Or.inl u), ix ux]
    obtain ⟨N', g1, g2, g3, g4⟩ := rs_143 H (rx ux).1 (show y' < 6 by omega) hty c6
    exact ⟨N', by rw [g1]; rfl, g2, g3, g4⟩
  · rw [if_neg (show ¬ nI j = (10 : Int32) from fun g => e10 ((nj 10 (by decide)).mp g)), if_neg e10]
    exact ⟨N, rfl, H, fr_refl _ _, fs_refl _ _⟩
end
