/-! A statement, on both sides at once: the eleven of them -/
section
variable {M N : am_M} {pl : Nat → Nat → Option Nat} {ow : Nat → Option Nat} {ct : Nat → Nat → Int} {q : ct_Q} {m : Nat} {ce : Nat → Int32} {lo : Nat → Option Nat} {ls : Int32} {sh : Nat → Int32} {tt : Nat} {a b n nf bg : Nat} {pr : Nat → Nat} {t : ty_T} {Bd : Int} {c : Nat → Int32} {h at' : Nat}
/-- what is sent: its closure as bits -/
theorem sy_bits (P : Nat → Prop) : ∃ cl : Nat → Bool, (∀ o, o < 16 → (cl o = true ↔ P o)) ∧ ∀ o, 16 ≤ o → cl o = false := by
  classical
  exact ⟨fun o => decide (o < 16 ∧ P o), fun o ho => by simp [ho], fun o ho => by simp [show ¬ o < 16 by omega]⟩
/-- the first free number, or none -/
theorem sy_free (ow : Nat → Option Nat) : (∃ o, o < 16 ∧ (∀ j, j < o → ow j ≠ none) ∧ ow o = none) ∨ ∀ j, j < 16 → ow j ≠ none := by
  by_cases h : ∃ o, o < 16 ∧ ow o = none
  · left
    obtain ⟨k, hk, hm⟩ := pk_least (fun o => o < 16 ∧ ow o = none) h
    exact ⟨k, hk.1, fun j hj e => hm j hj ⟨by omega, e⟩, hk.2⟩
  · right
    intro j hj e; exact h ⟨j, hj, e⟩
theorem ex_st (hS : cl_S M pl ow ct q m ce ls sh tt) (hT : rf_S N pl ow ct q m ce ls sh tt) (hL : cl_L M lo) (hL' : rf_L N lo) (R : sy_R a b n nf pr t pl ow ct q m lo Bd) (hw : ty_w t) (hv : ty_v t) (ha : a < n) (hM0 : M 94 0 = nI n) (hN0 : N 96 0 = nI n) (hnf : nf ≤ 6) (hpr : ∀ b, b < nf → st_sn (pr b) = true ∧ pr b < 6 ∧ M (7 + 12 * b) 1 = nI (pr b) ∧ N 102 b = nI (pr b)) (hbg : bg ≤ nf) (hst : pg_st bg pr t c) (hh : h < 79) (hM : ∀ i, i < 5 → M h i = c i) (hat : at' + 4 < 300) (hN : ∀ i, i < 5 → N 104 (at' + i) = c i) (hB0 : 0 ≤ Bd) (hB : Bd < 900000) (htt : tt < 90000) : ∃ M' N', fd_85 (nI a) h M = some M' ∧ fd_161 (nI a) (nI at') N = some N' ∧ sy_X a n nf pr (ty_s c t) Bd tt M N M' N' := by
  obtain ⟨is, rg, ac⟩ := hst
  obtain ⟨ac1, ac2, ac4, ac5, ac8⟩ := st_acc hw rg ac
  obtain ⟨z9, z10, zy, zz, z5, _⟩ := st_re_0 ac
  obtain ⟨i0, ix, iy, iff, iz⟩ := is
  obtain ⟨rj, rx, ry, r8, rf, rz⟩ := rg
  unfold ty_s
  generalize pg_d (c 0) = j at *
  generalize pg_d (c 1) = x at *
  generalize pg_d (c 2) = y at *
  generalize pg_d (c 3) = f at *
  generalize pg_d (c 4) = z at *
  have n4 : n ≤ 4 := R.2.2.2.2.2.2.2.2.1
  have a4 : a < 4 := by omega
  have hlo := R.2.2.1
  have ho4 : ∀ o a, ow o = some a → a < 4 := fun o a' e => by have := (R.2.2.2.2.2.2.2.1 o a' e).1; omega
  have hpl16 : ∀ h k v, h < 20 → pl h k = some v → v < 16 := fun h k v h1 h2 => (R.2.2.2.2.1 h k v h1 h2).1
  have hpl6 : ∀ p k v, p < 16 → pl p k = some v → k < 6 := fun p k v h1 h2 => (R.2.2.2.2.1 p k v (by omega) h2).2
  have prs : ∀ b, b < nf → st_sn (pr b) = true := fun b hb => (hpr b hb).1
  have nj : ∀ k, k < 11 → (nI j = nI k ↔ j = k) := fun k hk => en_nI (by omega) (by omega)
  -- what both have to do
  have s1 := fd_85.eq_1 (nI a) h M
  have s2 := fd_161.eq_1 (nI a) (nI at') N
  rw [hM 0 (by decide), hM 1 (by decide), hM 2 (by decide), hM 4 (by decide), i0] at s1
  rw [nI_1, pu_a2, pu_a3, pu_a4, pu_cl (show at' < 1000 by omega), pu_cl (show at' + 1 < 1000 by omega), pu_cl (show at' + 2 < 1000 by omega), pu_cl (show at' + 3 < 1000 by omega), pu_cl (show at' + 4 < 1000 by omega), pu_g2 (show at' < 300 by omega) (by omega), pu_g2 (show at' + 1 < 300 by omega) (by omega), pu_g2 (show at' + 2 < 300 by omega) (by omega), pu_g2 (show at' + 3 < 300 by omega) (by omega), pu_g2 (show at' + 4 < 300 by omega) (by omega), show N 104 at' = c 0 from hN 0 (by decide), hN 1 (by decide), hN 2 (by decide), hN 3 (by decide), hN 4 (by decide), i0] at s2
  have f3 : M h 3 = c 3 := hM 3 (by decide)
  -- the holder that y names
  have hold : st_uy j = true → ∃ cy, ty_c t y = some cy ∧ ty_h t y = false ∧ y < 7 ∧ (cy < 5 → ∀ hd, ab_hd a lo y = some hd → hd < 20 ∧ (hd < 16 → ow hd ≠ none)) := by
    intro u
    obtain ⟨cy, hc, _⟩ := ac1 u
    exact ⟨cy, hc, (zy u).1, (ry u).1, fun c5 hd hhd => by have := sy_hd_ex R a4 (ry u).1 hw hv hc (zy u).1 c5 hhd; exact ⟨this.1, this.2.1⟩⟩
  -- a local that is looked into, as an object that is there
  have live : st_uy j = true → j = 6 ∨ j = 7 → ∀ o, lo y = some o → o < 16 ∧ ow o ≠ none := by
    intro u e o hlo'
    have y7 := ry u
    have y6 : y ≠ 6 := fun g => by have := y7.2 g; omega
    obtain ⟨cy, hc, c6, h5, h3, _⟩ := ac1 u
    have c5 : cy < 5 := by rcases e with e | e; have := h3 (by omega); omega; exact h5 (Or.inr e)
    have hd : ab_hd a lo y = some o := by unfold ab_hd; rw [if_neg y6]; exact hlo'
    have := sy_hd_ex R a4 y7.1 hw hv hc (zy u).1 c5 hd
    exact ⟨hlo y o hlo', this.2.1 (hlo y o hlo')⟩
  unfold ty_ef
  by_cases e0 : j = 0
  · have ux : st_ux j = true := by rw [e0]; rfl
    have uf : st_uf j = true := by rw [e0]; rfl
    have x6 := (rx ux).1
    rw [if_pos (show nI j = (0 : Int32) from (nj 0 (by decide)).mpr e0), ix ux] at s1 s2
    rw [if_pos e0]
    simp (disch := omega) only [pu_cl, pu_g2] at s1 s2
    obtain ⟨hS1, hS2, hS3, hS4, hS5, hS6, hS7⟩ := hS
    obtain ⟨hT1, hT2, hT3, hT4, hT5, hT6, hT7⟩ := hT
    rcases sy_free ow with ⟨o, ho, hj, hn⟩ | hfull
    · obtain ⟨M1, g1, g2, g3, g4, g5, g6⟩ := (cs_86 ho4 a4 hS1 hS2 hS3 hS5).1 o ho hj hn
      obtain ⟨N1, k1, k2, k3, k4, k5, k6⟩ := (rs_162 ho4 a4 hT1 hT2 hT3 hT5).1 o ho hj hn
      rw [g1, Option.bind_some] at s1
      rw [k1, Option.bind_some] at s2
      dsimp only at s1 s2
      have e21 : ∀ i, ab_npl o pl 21 i = pl 21 i := fun i => if_neg (by omega)
      refine ⟨_, _, s1, s2, b, gh_u (ab_npl o pl) 20 x (some o), ab_now o a ow, ab_nct o ct, q, m, ab_nce o ce, up_1 lo x (some o), ls, sh, tt, ?_, ?_, cl_L_w (fun k hk => by rw [g6 95 (by decide)]; exact hL k hk) rfl, rf_L_w (fun k hk => by rw [k6 115 (by decide)]; exact hL' k hk) rfl, sy_R_B (rn_0 R prs hB0 ha x6 hw ho hn) (by omega), ?_, ?_, by omega⟩
      · refine cl_S_f (M := M1) (cl_S_pl (pl := ab_npl o pl) ⟨g2, g3, g4, ?_, g5, by rw [g6 94 (by decide)]; exact hS6, ?_⟩ (fun y k hy => sy_u20 (by omega))) (fun y h1 h2 _ _ _ => dw_r _ _ _ (by omega))
        · have := cl_Q_f hS4 (g6 84 (by decide)) (g6 85 (by decide)) (g6 86 (by decide)) (g6 87 (by decide)) (g6 88 (by decide))
          refine ⟨this.1, this.2.1, fun i hi => ?_⟩
          rw [e21]; exact this.2.2 i hi
        · unfold cl_D; rw [g6 92 (by decide), g6 93 (by decide)]; exact hS7
      · refine rf_S_f (N := N1) (rf_S_pl (pl := ab_npl o pl) ⟨k2, k3, k4, ?_, k5, by rw [k6 96 (by decide)]; exact hT6, ?_⟩ (fun y k hy => sy_u20 (by omega))) (fun y hy => dw_r _ _ _ (by omega)) (fun s _ => by rw [dw_r _ _ _ (by decide)])
        · have := rf_Q_f hT4 (by rw [k6 96 (by decide)]) (k6 108 (by decide)) (k6 109 (by decide)) (k6 110 (by decide)) (k6 111 (by decide))
          refine ⟨this.1, this.2.1, fun i hi => ?_⟩
          rw [e21]; exact this.2.2 i hi
        · unfold rf_D; rw [k6 96 (by decide), k6 116 (by decide)]; exact hT7
      · exact fr_q_tr (fr_q_of g6 (by simp)) ⟨fun y hy => dw_r _ _ _ (by omega), by rw [dw_r _ _ _ (by decide)]⟩
      · exact fr_n_tr (fr_n_of (K := []) k6 (fs_of k6 (by decide)) (by simp) (by simp)) ⟨fun y hy => dw_r _ _ _ (by omega), fun s _ _ _ => by rw [dw_r _ _ _ (by decide)]⟩
    · rw [(cs_86 ho4 a4 hS1 hS2 hS3 hS5).2 hfull, Option.bind_some] at s1
      rw [(rs_162 ho4 a4 hT1 hT2 hT3 hT5).2 hfull, Option.bind_some] at s2
      dsimp only at s1 s2
      have R' := sy_R_bc (c := f) (v := none) R x6 hw (fun w e => by cases e) (by
        obtain ⟨g, V, J⟩ := R.1
        exact ⟨g, V, gh_J_lc J (sy_P_cel a b t) x f⟩)
      refine ⟨_, _, s1, s2, b, gh_u pl 20 x none, ow, ct, q, m, ce, up_1 lo x none, ls + 1, sh, tt, ?_, ?_, cl_L_w (fun k hk => by rw [dw_r _ _ _ (by decide)]; exact hL k hk) rfl, rf_L_w (fun k hk => by rw [dw_r _ _ _ (by decide)]; exact hL' k hk) rfl, sy_R_B R' (by omega), ⟨fun y hy => by rw [dw_r _ _ _ (by omega), dw_r _ _ _ (by omega)], by rw [dw_r _ _ _ (by decide), dw_n _ _ (by decide)]⟩, ⟨fun y hy => by rw [dw_r _ _ _ (by omega), dw_r _ _ _ (by omega)], fun s h1 h2 h3 => by rw [dw_r _ _ _ (by decide), dw_n _ _ h2]⟩, by omega⟩
      · refine cl_S_pl ⟨cl_H_f hS1 (by rw [dw_r _ _ _ (by decide), dw_r _ _ _ (by decide)]), cl_O_f hS2 (by rw [dw_r _ _ _ (by decide), dw_r _ _ _ (by decide)]), cl_T_f hS3 (by rw [dw_r _ _ _ (by decide), dw_r _ _ _ (by decide)]), cl_Q_f hS4 (by rw [dw_r _ _ _ (by decide), dw_r _ _ _ (by decide)]) (by rw [dw_r _ _ _ (by decide), dw_r _ _ _ (by decide)]) (by rw [dw_r _ _ _ (by decide), dw_r _ _ _ (by decide)]) (by rw [dw_r _ _ _ (by decide), dw_r _ _ _ (by decide)]) (by rw [dw_r _ _ _ (by decide), dw_r _ _ _ (by decide)]), ?_, ?_, ?_⟩ (fun y k hy => sy_u20 (by omega))
        · unfold cl_C; rw [dw_r _ _ _ (by decide), dw_r _ _ _ (by decide)]; exact hS5
        · rw [dw_r _ _ _ (by decide), dw_s, hS6]
        · unfold cl_D; rw [dw_r _ _ _ (by decide), dw_r _ _ _ (by decide), dw_r _ _ _ (by decide), dw_r _ _ _ (by decide)]; exact hS7
      · refine rf_S_pl ⟨rf_H_f hT1 (by rw [dw_r _ _ _ (by decide), dw_r _ _ _ (by decide)]) (by rw [dw_r _ _ _ (by decide), dw_r _ _ _ (by decide)]), rf_O_f hT2 (by rw [dw_r _ _ _ (by decide), dw_r _ _ _ (by decide)]), rf_T_f hT3 (by rw [dw_r _ _ _ (by decide), dw_r _ _ _ (by decide)]), rf_Q_f hT4 (by rw [dw_r _ _ _ (by decide), dw_n _ _ (by decide)]) (by rw [dw_r _ _ _ (by decide), dw_r _ _ _ (by decide)]) (by rw [dw_r _ _ _ (by decide), dw_r _ _ _ (by decide)]) (by rw [dw_r _ _ _ (by decide), dw_r _ _ _ (by decide)]) (by rw [dw_r _ _ _ (by decide), dw_r _ _ _ (by decide)]), ?_, ?_, ?_⟩ (fun y k hy => sy_u20 (by omega))
        · unfold rf_C; rw [dw_r _ _ _ (by decide), dw_r _ _ _ (by decide)]; exact hT5
        · rw [dw_r _ _ _ (by decide), dw_s, hT6]
        · unfold rf_D; rw [dw_r _ _ _ (by decide), dw_n _ _ (by decide), dw_r _ _ _ (by decide), dw_r _ _ _ (by decide)]; exact hT7
  rw [if_neg (show ¬ nI j = (0 : Int32) from fun g => e0 ((nj 0 (by decide)).mp g))] at s1 s2
  rw [if_neg e0]
  unfold fd_161_82 at s2
  have cpy : st_ux j = true → st_uy j = true → j ≠ 3 → j ≠ 4 → j ≠ 5 → x < 6 ∧ y < 6 ∧ ∃ cy, t.1 y = some cy ∧ t.2.1 y = false := by
    intro ux u n3 n4' n5
    have y7 := ry u
    have y6 : y ≠ 6 := fun g => by have := y7.2 g; omega
    obtain ⟨cy, hc, _, _, _, h6⟩ := ac1 u
    have hh := (zy u).1
    unfold ty_h at hh; rw [if_neg y6] at hh
    exact ⟨(rx ux).1, by omega, cy, h6 y6, hh⟩
  by_cases e1 : j = 1
  · have ux : st_ux j = true := by rw [e1]; rfl
    have u : st_uy j = true := by rw [e1]; rfl
    obtain ⟨x6, y6, cy, hc, hhid⟩ := cpy ux u (by omega) (by omega) (by omega)
    rw [if_pos (show nI j = (1 : Int32) from (nj 1 (by decide)).mpr e1), ix ux, iy (Or.inl u)] at s1 s2
    simp (disch := omega) only [pu_cl, pu_g2] at s1 s2
    rw [if_pos e1, hc]
    exact ⟨_, _, s1, s2, sy_X_l hS hT hL hL' (fun y k hy => sy_u20 (by omega)) (hL y y6) (hL' y y6) (rn_1 R x6 y6 hw hv hc hhid)⟩
  rw [if_neg (show ¬ nI j = (1 : Int32) from fun g => e1 ((nj 1 (by decide)).mp g))] at s1 s2
  rw [if_neg e1]
  by_cases e2 : j = 2
  · have ux : st_ux j = true := by rw [e2]; rfl
    have u : st_uy j = true := by rw [e2]; rfl
    obtain ⟨x6, y6, cy, hc, hhid⟩ := cpy ux u (by omega) (by omega) (by omega)
    rw [if_pos (show nI j = (2 : Int32) from (nj 2 (by decide)).mpr e2), ix ux, iy (Or.inl u)] at s1 s2
    simp (disch := omega) only [pu_cl, pu_g2] at s1 s2
    rw [if_pos e2, hc]
    exact ⟨_, _, s1, s2, sy_X_l hS hT hL hL' (fun y k hy => by rw [sy_u20 (by omega), sy_u20 (by omega)]) (hL y y6) (hL' y y6) (rn_2 R x6 y6 hw hv hc hhid)⟩
  rw [if_neg (show ¬ nI j = (2 : Int32) from fun g => e2 ((nj 2 (by decide)).mp g))] at s1 s2
  rw [if_neg e2]
  -- SHUT: the class comes to it last
  by_cases e10 : j = 10
  · have ux : st_ux j = true := by rw [e10]; rfl
    have u : st_uy j = true := by rw [e10]; rfl
    obtain ⟨x6, y6, cy, hc, hhid⟩ := cpy ux u (by omega) (by omega) (by omega)
    have ne : ∀ k, k < 11 → k ≠ 10 → ¬ nI j = nI k := fun k hk h10 g => by have := (nj k hk).mp g; omega
    rw [if_neg (show ¬ nI j = (3 : Int32) from ne 3 (by decide) (by decide)), if_neg (show ¬ nI j = (4 : Int32) from ne 4 (by decide) (by decide)), if_neg (show ¬ nI j = (5 : Int32) from ne 5 (by decide) (by decide)), if_neg (show ¬ nI j = (6 : Int32) from ne 6 (by decide) (by decide)), if_neg (show ¬ nI j = (7 : Int32) from ne 7 (by decide) (by decide)), if_neg (show ¬ nI j = (8 : Int32) from ne 8 (by decide) (by decide)), if_neg (show ¬ nI j = (9 : Int32) from ne 9 (by decide) (by decide)), if_pos (show nI j = (10 : Int32) from (nj 10 (by decide)).mpr e10), ix ux, iy (Or.inl u)] at s1
    rw [if_pos (show nI j = (10 : Int32) from (nj 10 (by decide)).mpr e10), ix ux, iy (Or.inl u)] at s2
    simp (disch := omega) only [pu_cl, pu_g2] at s1 s2
    rw [if_neg (show ¬ j = 3 by omega), if_neg (show ¬ j = 5 by omega), if_neg (show ¬ j = 8 by omega), if_neg (show ¬ j = 9 by omega), if_pos e10]
    obtain ⟨b', R'⟩ := rn_10 R x6 y6 hw hv (z10 e10) hc hhid
    refine ⟨_, _, s1, s2, sy_X_l hS hT hL hL' (fun y' k hy => ?_) (hL y y6) (hL' y y6) R'⟩
    rw [sy_u20 (by omega)]; exact if_neg (fun g => by omega)
  rw [if_neg (show ¬ nI j = (10 : Int32) from fun g => e10 ((nj 10 (by decide)).mp g))] at s2
  by_cases e3 : j = 3
  · have ux : st_ux j = true := by rw [e3]; rfl
    have u : st_uy j = true := by rw [e3]; rfl
    have uf : st_uf j = true := by rw [e3]; rfl
    obtain ⟨cy, hc, hhid, y7, hlive⟩ := hold u
    obtain ⟨cy', hc', _, h5, _, _⟩ := ac1 u
    rw [hc] at hc'; injection hc' with hc'
    have c5 : cy < 5 := by rw [hc']; exact h5 (Or.inl e3)
    have x6 := (rx ux).1
    rw [if_pos (show nI j = (3 : Int32) from (nj 3 (by decide)).mpr e3), ix ux, iy (Or.inl u), cs_90 y7 hL, Option.bind_some] at s1
    dsimp only at s1
    rw [f3, iff uf, cs_92 (rf uf) (hlive c5) hS.1, Option.bind_some] at s1
    rw [if_pos (show nI j = (3 : Int32) from (nj 3 (by decide)).mpr e3), ix ux, iy (Or.inl u), iff uf, rs_163 a4 y7 (rf uf) hlo hL' hT.1, Option.bind_some] at s2
    dsimp only at s1 s2
    simp (disch := omega) only [pu_cl, pu_g2] at s1 s2
    rw [if_pos e3, hc]
    exact ⟨_, _, s1, s2, sy_X_l hS hT hL hL' (fun y k hy => sy_u20 (by omega)) rfl rfl (rn_3 R a4 x6 y7 (rf uf) hw hv hc hhid c5)⟩
  rw [if_neg (show ¬ nI j = (3 : Int32) from fun g => e3 ((nj 3 (by decide)).mp g))] at s1 s2
  rw [if_neg e3]
  by_cases e4 : j = 4
  · have u : st_uy j = true := by rw [e4]; rfl
    have uf : st_uf j = true := by rw [e4]; rfl
    have uz : st_uz j = true := by rw [e4]; rfl
    obtain ⟨cy, hc, hhid, y7, hlive⟩ := hold u
    obtain ⟨cy', hc', _, _, h3, _⟩ := ac1 u
    rw [hc] at hc'; injection hc' with hc'
    have c3 : cy < 3 := by rw [hc']; exact h3 (Or.inl e4)
    obtain ⟨cz, hcz, cz6⟩ := ac2 uz
    have z6 := rz uz
    have hhz : t.2.1 z = false := by have := (zz uz).1; unfold ty_h at this; rw [if_neg (by omega)] at this; exact this
    obtain ⟨hsa, hsu⟩ := ac4 e4 cy cz hc hcz
    have hnone := hhid
    rw [if_pos (show nI j = (4 : Int32) from (nj 4 (by decide)).mpr e4), iy (Or.inl u), cs_90 y7 hL, Option.bind_some] at s1
    dsimp only at s1
    simp only [hM 4 (by decide), f3, iz uz, iff uf] at s1
    simp (disch := omega) only [pu_cl, pu_g2] at s1
    rw [hL z z6] at s1
    obtain ⟨M1, g1, g2, g3⟩ := cs_93 (rf uf) (hlive (by omega)) hS.1 (lo z)
    rw [g1, Option.bind_some] at s1
    rw [if_pos (show nI j = (4 : Int32) from (nj 4 (by decide)).mpr e4), iy (Or.inl u), iz uz, iff uf] at s2
    simp (disch := omega) only [pu_cl, pu_g2] at s2
    rw [hL' z z6] at s2
    obtain ⟨N1, k1, k2, k3⟩ := rs_164 a4 y7 (rf uf) hlo hL' hT.1 (lo z)
    rw [k1, Option.bind_some] at s2
    rw [if_neg (show ¬ j = 5 by omega), if_neg (show ¬ j = 8 by omega), if_neg (show ¬ j = 9 by omega), if_neg (show ¬ j = 10 by omega)]
    have R' := rn_4 R prs a4 y7 (rf uf) z6 hw hv hc hhid c3 hcz hhz hsa hsu
    have e21 : ∀ i, ab_wr pl (ab_hd a lo y) f (lo z) 21 i = pl 21 i := by
      intro i
      cases hd : ab_hd a lo y with
      | none => rfl
      | some h' => have := (hlive (by omega) h' hd).1; exact gh_u_n _ _ (by omega)
    obtain ⟨_, hS2, hS3, hS4, hS5, hS6, hS7⟩ := hS
    obtain ⟨_, hT2, hT3, hT4, hT5, hT6, hT7⟩ := hT
    refine ⟨_, _, s1, s2, b, _, ow, ct, q, m, ce, lo, ls, sh, tt, ⟨g2, cl_O_f hS2 (g3 _ (by decide)), cl_T_f hS3 (g3 _ (by decide)), ?_, ?_, by dsimp only; rw [g3 94 (by decide)]; exact hS6, ?_⟩, ⟨k2, rf_O_f hT2 (k3 _ (by decide)), rf_T_f hT3 (k3 _ (by decide)), ?_, ?_, by rw [k3 96 (by decide)]; exact hT6, ?_⟩, fun k hk => by dsimp only; rw [g3 95 (by decide)]; exact hL k hk, fun k hk => by rw [k3 115 (by decide)]; exact hL' k hk, sy_R_B R' (by omega), fr_q_of g3 (by simp), fr_n_of (K := []) k3 (fs_of k3 (by decide)) (by simp) (by simp), by omega⟩
    · have := cl_Q_f hS4 (g3 84 (by decide)) (g3 85 (by decide)) (g3 86 (by decide)) (g3 87 (by decide)) (g3 88 (by decide))
      exact ⟨this.1, this.2.1, fun i hi => by rw [e21]; exact this.2.2 i hi⟩
    · unfold cl_C; dsimp only; rw [g3 81 (by decide)]; exact hS5
    · unfold cl_D; dsimp only; rw [g3 92 (by decide), g3 93 (by decide)]; exact hS7
    · have := rf_Q_f hT4 (by rw [k3 96 (by decide)]) (k3 108 (by decide)) (k3 109 (by decide)) (k3 110 (by decide)) (k3 111 (by decide))
      exact ⟨this.1, this.2.1, fun i hi => by rw [e21]; exact this.2.2 i hi⟩
    · unfold rf_C; rw [k3 98 (by decide)]; exact hT5
    · unfold rf_D; rw [k3 96 (by decide), k3 116 (by decide)]; exact hT7
  rw [if_neg (show ¬ nI j = (4 : Int32) from fun g => e4 ((nj 4 (by decide)).mp g))] at s1 s2
  by_cases e5 : j = 5
  · have ux : st_ux j = true := by rw [e5]; rfl
    have u : st_uy j = true := by rw [e5]; rfl
    have uf : st_uf j = true := by rw [e5]; rfl
    have uz : st_uz j = true := by rw [e5]; rfl
    have x6 := (rx ux).1
    obtain ⟨cy, hc, hhid, y7, hlive⟩ := hold u
    obtain ⟨cy', hc', _, _, h3, _⟩ := ac1 u
    rw [hc] at hc'; injection hc' with hc'
    have c3 : cy < 3 := by rw [hc']; exact h3 (Or.inr (Or.inl e5))
    obtain ⟨cz, hcz, cz6⟩ := ac2 uz
    have z6 := rz uz
    have hhz : t.2.1 z = false := by have := (zz uz).1; unfold ty_h at this; rw [if_neg (by omega)] at this; exact this
    obtain ⟨hsa, hsu⟩ := ac5 e5 cy cz hc hcz
    rw [if_pos (show nI j = (5 : Int32) from (nj 5 (by decide)).mpr e5), ix ux, iy (Or.inl u), cs_90 y7 hL, Option.bind_some] at s1
    dsimp only at s1
    simp only [hM 4 (by decide), f3, iz uz, iff uf] at s1
    simp (disch := omega) only [pu_cl, pu_g2] at s1
    rw [hL z z6] at s1
    obtain ⟨M1, g1, g2, g3⟩ := cs_93 (rf uf) (hlive (by omega)) hS.1 (lo z)
    rw [g1, Option.bind_some] at s1
    rw [if_pos (show nI j = (5 : Int32) from (nj 5 (by decide)).mpr e5), ix ux, iy (Or.inl u), iz uz, iff uf, rs_163 a4 y7 (rf uf) hlo hL' hT.1, Option.bind_some] at s2
    simp (disch := omega) only [pu_cl, pu_g2] at s2
    rw [hL' z z6] at s2
    obtain ⟨N1, k1, k2, k3⟩ := rs_164 a4 y7 (rf uf) hlo hL' hT.1 (lo z)
    rw [k1, Option.bind_some] at s2
    dsimp only at s1 s2
    rw [if_pos e5, hc]
    have R' := rn_5 R prs a4 x6 y7 (rf uf) z6 (z5 e5) hw hv hc hhid c3 hcz hhz hsa hsu
    have eq1 : ∀ h' k, h' < 20 ∨ h' = 21 → gh_u (ab_wr (gh_u pl 20 z none) (ab_hd a lo y) f (lo z)) 20 x (ab_rd pl (ab_hd a lo y) f) h' k = ab_wr pl (ab_hd a lo y) f (lo z) h' k := by
      intro h' k hh'
      rw [sy_u20 (by omega)]
      cases hd : ab_hd a lo y with
      | none => exact sy_u20 (by omega)
      | some h2 =>
        show gh_u (gh_u pl 20 z none) h2 f (lo z) h' k = gh_u pl h2 f (lo z) h' k
        by_cases e : h' = h2 ∧ k = f
        · obtain ⟨rfl, rfl⟩ := e; rw [gh_u_s, gh_u_s]
        · rw [gh_u_n _ _ e, gh_u_n _ _ e, sy_u20 (by omega)]
    have e21 : ∀ i, ab_wr pl (ab_hd a lo y) f (lo z) 21 i = pl 21 i := by
      intro i
      cases hd : ab_hd a lo y with
      | none => rfl
      | some h' => have := (hlive (by omega) h' hd).1; exact gh_u_n _ _ (by omega)
    obtain ⟨_, hS2, hS3, hS4, hS5, hS6, hS7⟩ := hS
    obtain ⟨_, hT2, hT3, hT4, hT5, hT6, hT7⟩ := hT
    have S1 : cl_S M1 (ab_wr pl (ab_hd a lo y) f (lo z)) ow ct q m ce ls sh tt := by
      refine ⟨g2, cl_O_f hS2 (g3 _ (by decide)), cl_T_f hS3 (g3 _ (by decide)), ?_, ?_, by rw [g3 94 (by decide)]; exact hS6, ?_⟩
      · have := cl_Q_f hS4 (g3 84 (by decide)) (g3 85 (by decide)) (g3 86 (by decide)) (g3 87 (by decide)) (g3 88 (by decide))
        exact ⟨this.1, this.2.1, fun i hi => by rw [e21]; exact this.2.2 i hi⟩
      · unfold cl_C; rw [g3 81 (by decide)]; exact hS5
      · unfold cl_D; rw [g3 92 (by decide), g3 93 (by decide)]; exact hS7
    have T1 : rf_S N1 (ab_wr pl (ab_hd a lo y) f (lo z)) ow ct q m ce ls sh tt := by
      refine ⟨k2, rf_O_f hT2 (k3 _ (by decide)), rf_T_f hT3 (k3 _ (by decide)), ?_, ?_, by rw [k3 96 (by decide)]; exact hT6, ?_⟩
      · have := rf_Q_f hT4 (by rw [k3 96 (by decide)]) (k3 108 (by decide)) (k3 109 (by decide)) (k3 110 (by decide)) (k3 111 (by decide))
        exact ⟨this.1, this.2.1, fun i hi => by rw [e21]; exact this.2.2 i hi⟩
      · unfold rf_C; rw [k3 98 (by decide)]; exact hT5
      · unfold rf_D; rw [k3 96 (by decide), k3 116 (by decide)]; exact hT7
    have X := sy_X_l (M := M1) (N := N1) (x := x) S1 T1 (fun k hk => by rw [g3 95 (by decide)]; exact hL k hk) (fun k hk => by rw [k3 115 (by decide)]; exact hL' k hk) eq1 rfl rfl R'
    obtain ⟨b', pl', ow', ct', q', m', ce', lo', ls', sh', tt', x1, x2, x3, x4, x5, x6', x7, x8⟩ := X
    exact ⟨_, _, s1, s2, b', pl', ow', ct', q', m', ce', lo', ls', sh', tt', x1, x2, x3, x4, x5, fr_q_tr (fr_q_of g3 (by simp)) x6', fr_n_tr (fr_n_of (K := []) k3 (fs_of k3 (by decide)) (by simp) (by simp)) x7, x8⟩
  rw [if_neg (show ¬ nI j = (5 : Int32) from fun g => e5 ((nj 5 (by decide)).mp g))] at s1 s2
  rw [if_neg e5]
  by_cases e6 : j = 6
  · have u : st_uy j = true := by rw [e6]; rfl
    have y7 := ry u
    have y6 : y < 6 := by have : y ≠ 6 := fun g => (by have := y7.2 g; omega); omega
    rw [if_pos (show nI j = (6 : Int32) from (nj 6 (by decide)).mpr e6), iy (Or.inl u)] at s1 s2
    simp (disch := omega) only [pu_cl, pu_g2] at s1 s2
    rw [hL y y6] at s1
    rw [hL' y y6] at s2
    rw [if_neg (show ¬ j = 8 by omega), if_neg (show ¬ j = 9 by omega), if_neg (show ¬ j = 10 by omega)]
    obtain ⟨hS1, hS2, hS3, hS4, hS5, hS6, hS7⟩ := hS
    obtain ⟨hT1, hT2, hT3, hT4, hT5, hT6, hT7⟩ := hT
    obtain ⟨M1, g1, g2, g3, g4⟩ := cs_94 (live u (Or.inl e6)) hS5 (c 4)
    rw [g1, Option.bind_some] at s1
    cases hv' : lo y with
    | none =>
      rw [hv', if_pos (show en_o none = -1 from rfl)] at s2
      have := g2 hv'
      subst this
      exact ⟨_, _, s1, s2, sy_X_0 ⟨hS1, hS2, hS3, hS4, hS5, hS6, hS7⟩ ⟨hT1, hT2, hT3, hT4, hT5, hT6, hT7⟩ hL hL' R⟩
    | some o =>
      obtain ⟨o16, _⟩ := live u (Or.inl e6) o hv'
      rw [hv', if_neg (show ¬ en_o (some o) = -1 from en_nI_m1 (by omega)), en_o_s] at s2
      simp (disch := omega) only [pu_cl, pu_g2] at s2
      refine ⟨_, _, s1, s2, b, pl, ow, ct, q, m, ab_ad o (c 4) ce, lo, ls, sh, tt, ⟨cl_H_f hS1 (g4 _ (by decide)), cl_O_f hS2 (g4 _ (by decide)), cl_T_f hS3 (g4 _ (by decide)), cl_Q_f hS4 (g4 _ (by decide)) (g4 _ (by decide)) (g4 _ (by decide)) (g4 _ (by decide)) (g4 _ (by decide)), g3 o hv', by rw [g4 94 (by decide)]; exact hS6, ?_⟩, ⟨rf_H_f hT1 (dw_r _ _ _ (by decide)) (dw_r _ _ _ (by decide)), rf_O_f hT2 (dw_r _ _ _ (by decide)), rf_T_f hT3 (dw_r _ _ _ (by decide)), rf_Q_f hT4 (by rw [dw_r _ _ _ (by decide)]) (dw_r _ _ _ (by decide)) (dw_r _ _ _ (by decide)) (dw_r _ _ _ (by decide)) (dw_r _ _ _ (by decide)), fun k hk => ?_, by rw [dw_r _ _ _ (by decide)]; exact hT6, ?_⟩, fun k hk => by rw [g4 95 (by decide)]; exact hL k hk, fun k hk => by rw [dw_r _ _ _ (by decide)]; exact hL' k hk, sy_R_B R (by omega), fr_q_of g4 (by simp), ⟨fun h hh => dw_r _ _ _ (by omega), fun s _ _ _ => by rw [dw_r _ _ _ (by decide)]⟩, by omega⟩
      · unfold cl_D; rw [g4 92 (by decide), g4 93 (by decide)]; exact hS7
      · unfold ab_ad
        by_cases e : k = o
        · subst e; rw [dw_s, if_pos rfl, hT5 k hk]
        · rw [dw_n _ _ e, if_neg e]; exact hT5 k hk
      · unfold rf_D; rw [dw_r _ _ _ (by decide), dw_r _ _ _ (by decide)]; exact hT7
  rw [if_neg (show ¬ nI j = (6 : Int32) from fun g => e6 ((nj 6 (by decide)).mp g))] at s1 s2
  by_cases e7 : j = 7
  · have u : st_uy j = true := by rw [e7]; rfl
    have y7 := ry u
    have y6 : y < 6 := by have : y ≠ 6 := fun g => (by have := y7.2 g; omega); omega
    rw [if_pos (show nI j = (7 : Int32) from (nj 7 (by decide)).mpr e7), iy (Or.inl u)] at s1 s2
    simp (disch := omega) only [pu_cl, pu_g2] at s1 s2
    rw [hL y y6] at s1
    rw [hL' y y6] at s2
    rw [if_neg (show ¬ j = 8 by omega), if_neg (show ¬ j = 9 by omega), if_neg (show ¬ j = 10 by omega)]
    obtain ⟨hS1, hS2, hS3, hS4, hS5, hS6, hS7⟩ := hS
    obtain ⟨hT1, hT2, hT3, hT4, hT5, hT6, hT7⟩ := hT
    obtain ⟨M1, g1, g2, g3, g4⟩ := cs_96 (live u (Or.inr e7)) hS5 hS7 (by omega)
    rw [g1, Option.bind_some] at s1
    cases hv' : lo y with
    | none =>
      rw [hv', if_pos (show en_o none = -1 from rfl)] at s2
      have := g2 hv'
      subst this
      exact ⟨_, _, s1, s2, sy_X_0 ⟨hS1, hS2, hS3, hS4, hS5, hS6, hS7⟩ ⟨hT1, hT2, hT3, hT4, hT5, hT6, hT7⟩ hL hL' R⟩
    | some o =>
      obtain ⟨o16, _⟩ := live u (Or.inr e7) o hv'
      rw [hv', if_neg (show ¬ en_o (some o) = -1 from en_nI_m1 (by omega)), en_o_s] at s2
      simp (disch := omega) only [pu_cl, pu_g2] at s2
      rw [hT5 o o16] at s2
      obtain ⟨N1, k1, k2, k3, k4⟩ := rs_165 hT7 (ce o)
      rw [k1, Option.bind_some] at s2
      refine ⟨_, _, s1, s2, b, pl, ow, ct, q, m, ce, lo, ls, ab_sh (ce o) sh, tt + 1, ⟨cl_H_f hS1 (g4 _ (by decide)), cl_O_f hS2 (g4 _ (by decide)), cl_T_f hS3 (g4 _ (by decide)), cl_Q_f hS4 (g4 _ (by decide)) (g4 _ (by decide)) (g4 _ (by decide)) (g4 _ (by decide)) (g4 _ (by decide)), ?_, by rw [g4 94 (by decide)]; exact hS6, g3 o hv'⟩, ⟨rf_H_f hT1 (k3 _ (by decide)) (k3 _ (by decide)), rf_O_f hT2 (k3 _ (by decide)), rf_T_f hT3 (k3 _ (by decide)), rf_Q_f hT4 (k4 15 (by decide)) (k3 _ (by decide)) (k3 _ (by decide)) (k3 _ (by decide)) (k3 _ (by decide)), ?_, by rw [k4 24 (by decide)]; exact hT6, k2⟩, fun k hk => by rw [g4 95 (by decide)]; exact hL k hk, fun k hk => by rw [k3 115 (by decide)]; exact hL' k hk, sy_R_B R (by omega), fr_q_of g4 (by simp), fr_n_of k3 k4 (by simp) (by simp), by omega⟩
      · unfold cl_C; rw [g4 81 (by decide)]; exact hS5
      · unfold rf_C; rw [k3 98 (by decide)]; exact hT5
  rw [if_neg (show ¬ nI j = (7 : Int32) from fun g => e7 ((nj 7 (by decide)).mp g))] at s1 s2
  by_cases e9 : j = 9
  · rw [if_neg (show ¬ nI j = (8 : Int32) from fun g => by have := (nj 8 (by decide)).mp g; omega), if_pos (show nI j = (9 : Int32) from (nj 9 (by decide)).mpr e9)] at s1
    rw [if_neg (show ¬ nI j = (8 : Int32) from fun g => by have := (nj 8 (by decide)).mp g; omega)] at s2
    rw [if_neg (show ¬ j = 8 by omega), if_pos e9]
    exact ⟨_, _, s1, s2, sy_X_0 hS hT hL hL' (rn_9 R hw (z9 e9))⟩
  have e8 : j = 8 := by omega
  have ux : st_ux j = true := by rw [e8]; rfl
  have uz : st_uz j = true := by rw [e8]; rfl
  have x4 := (rx ux).2 e8
  have yb := r8 e8
  have yn : y < nf := by omega
  have z6 := rz uz
  obtain ⟨cz, hcz, cz6⟩ := ac2 uz
  have hsu := ac8 e8 cz hcz
  obtain ⟨p1, p2, p3, p4⟩ := hpr y yn
  rw [if_pos (show nI j = (8 : Int32) from (nj 8 (by decide)).mpr e8), ix ux, iy (Or.inr e8), iz uz, hM0, if_neg (show ¬ nI n = 0 from fun g => by have := (en_nI (t := 0) (by omega) (by decide)).mp g; omega), nI_add, show nI (a + x) - nI (a + x) / nI n * nI n = nI ((a + x) % n) from pk_rem (by omega) (by omega) (by omega)] at s1
  rw [if_pos (show nI j = (8 : Int32) from (nj 8 (by decide)).mpr e8), ix ux, iy (Or.inr e8), iz uz, hN0, if_neg (show ¬ nI n = 0 from fun g => by have := (en_nI (t := 0) (by omega) (by decide)).mp g; omega), nI_add, show nI (a + x) - nI (a + x) / nI n * nI n = nI ((a + x) % n) from pk_rem (by omega) (by omega) (by omega)] at s2
  simp (disch := omega) only [pu_cl, pu_g2] at s1 s2
  rw [hL z z6] at s1
  rw [hL' z z6] at s2
  rw [if_pos e8]
  obtain ⟨cl, hcl, hcl16⟩ := sy_bits (fun o => ∃ v, lo z = some v ∧ gh_cl pl v (pr y) o)
  obtain ⟨sK, sD⟩ := sy_snd (c := pr y) R z6 hw hcz hsu
  have he : ∀ o, o < 16 → cl o = true → ow o ≠ none := by
    intro o ho hc
    obtain ⟨v, g1, g2⟩ := (hcl o ho).mp hc
    rcases (sK v o g1 g2).1 with g | g
    · rw [g]; simp
    · exact g.1
  have hwd : ∀ o, o < 16 → en_w (ct a o) := fun o ho => by have := sy_R_ct R a4 ho; unfold en_w; omega
  have hto : (a + x) % n < n := Nat.mod_lt _ (by omega)
  obtain ⟨hS1, hS2, hS3, hS4, hS5, hS6, hS7⟩ := hS
  obtain ⟨hT1, hT2, hT3, hT4, hT5, hT6, hT7⟩ := hT
  have C := cs_99 (to := (a + x) % n) (cl := cl) (v := lo z) hpl16 hpl6 (fun v hv' => hlo z v hv') ho4 a4 (show y < 6 by omega) p2 p3 hS1 hS2 hS3 hS4 hcl (fun v p h1 h2 _ h4 => sD v p h1 h2 h4) he hwd
  have D := rs_166 (to := (a + x) % n) (cl := cl) (v := lo z) hpl16 hpl6 (fun v hv' => hlo z v hv') ho4 a4 (show y < 6 by omega) p2 p4 hT1 hT2 hT3 hT4 hcl he hwd
  by_cases room : 20 < m + ab_need cl ow ct a 16 0 + 1
  · obtain ⟨M1, g1, g2, g3, g4⟩ := C.1 room
    obtain ⟨N1, k1, k2, k3, k4⟩ := D.1 room
    rw [g1, Option.bind_some] at s1
    rw [k1, Option.bind_some] at s2
    refine ⟨_, _, s1, s2, b, gh_u pl 20 z none, ow, ct, q, m, ce, lo, ls + 1, sh, tt, cl_S_pl ⟨cl_H_f hS1 (g4 _ (by decide)), cl_O_f hS2 (g4 _ (by decide)), cl_T_f hS3 (g4 _ (by decide)), cl_Q_f hS4 (g4 _ (by decide)) (g4 _ (by decide)) (g4 _ (by decide)) (g4 _ (by decide)) (g4 _ (by decide)), ?_, by rw [g2, hS6], ?_⟩ (fun y k hy => sy_u20 (by omega)), rf_S_pl ⟨rf_H_f hT1 (k3 _ (by decide)) (k3 _ (by decide)), rf_O_f hT2 (k3 _ (by decide)), rf_T_f hT3 (k3 _ (by decide)), rf_Q_f hT4 (k4 15 (by decide)) (k3 _ (by decide)) (k3 _ (by decide)) (k3 _ (by decide)) (k3 _ (by decide)), ?_, by rw [k2, hT6], ?_⟩ (fun y k hy => sy_u20 (by omega)), fun k hk => by rw [g4 95 (by decide)]; exact hL k hk, fun k hk => by rw [k3 115 (by decide)]; exact hL' k hk, sy_R_B (rn_8l R) (by omega), ⟨fun h hh => g4 h (by simp; omega), g3⟩, fr_n_of k3 k4 (by simp) (by simp), by omega⟩
    · unfold cl_C; rw [g4 81 (by decide)]; exact hS5
    · unfold cl_D; rw [g4 92 (by decide), g4 93 (by decide)]; exact hS7
    · unfold rf_C; rw [k3 98 (by decide)]; exact hT5
    · unfold rf_D; rw [k4 25 (by decide), k3 116 (by decide)]; exact hT7
  · obtain ⟨M1, g1, g2, g3, g4⟩ := C.2 (by omega)
    obtain ⟨N1, k1, k2, k3, k4, k5⟩ := D.2 (by omega)
    rw [g1, Option.bind_some] at s1
    rw [k1, Option.bind_some] at s2
    have hlt : (ab_pays cl ow a 16 0 (ct, q, m)).2.2 < 20 := by rw [ab_pays_m]; show m + ab_need cl ow ct a 16 0 < 20; omega
    have R' := rn_8 (to := (a + x) % n) R prs ha hto yn z6 hw hcz hsu hcl hcl16 hlt
    generalize ab_pays cl ow a 16 0 (ct, q, m) = s at g2 g3 k2 k3 hlt R'
    have e21 : ∀ i, gh_u (gh_u pl 20 z none) 21 s.2.2 (lo z) 21 i = gh_u pl 21 s.2.2 (lo z) 21 i := by
      intro i
      by_cases e : i = s.2.2
      · rw [e, gh_u_s, gh_u_s]
      · rw [gh_u_n _ _ (fun g => e g.2), gh_u_n _ _ (fun g => e g.2), sy_u20 (by decide)]
    have eo : ∀ h' k, h' < 20 → gh_u (gh_u pl 20 z none) 21 s.2.2 (lo z) h' k = pl h' k := fun h' k hh' => by rw [gh_u_n _ _ (by omega), sy_u20 (by omega)]
    refine ⟨_, _, s1, s2, b, _, ow, _, _, _, ce, lo, ls, sh, tt, ⟨?_, cl_O_f hS2 (g4 _ (by decide)), g2, ?_, ?_, by rw [g4 94 (by decide)]; exact hS6, ?_⟩, ⟨?_, rf_O_f hT2 (k4 _ (by decide)), k2, ?_, ?_, by rw [k5 24 (by decide)]; exact hT6, ?_⟩, fun k hk => by rw [g4 95 (by decide)]; exact hL k hk, fun k hk => by rw [k4 115 (by decide)]; exact hL' k hk, R', fr_q_of g4 (by simp), fr_n_of k4 k5 (by simp) (by simp), by omega⟩
    · have := cl_H_f hS1 (g4 82 (by decide))
      exact ⟨fun h' k h1 h2 h3 => by rw [eo h' k (by omega)]; exact this.1 h' k h1 h2 h3, fun a' k h1 h2 => by rw [eo _ k (by omega)]; exact this.2 a' k h1 h2⟩
    · exact ⟨g3.1, g3.2.1, fun i hi => by rw [e21]; exact g3.2.2 i hi⟩
    · unfold cl_C; rw [g4 81 (by decide)]; exact hS5
    · unfold cl_D; rw [g4 92 (by decide), g4 93 (by decide)]; exact hS7
    · have := rf_H_f hT1 (k4 99 (by decide)) (k4 101 (by decide))
      exact ⟨fun h' k h1 h2 => by rw [eo h' k (by omega)]; exact this.1 h' k h1 h2, fun a' k h1 h2 => by rw [eo _ k (by omega)]; exact this.2 a' k h1 h2⟩
    · exact ⟨k3.1, k3.2.1, fun i hi => by rw [e21]; exact k3.2.2 i hi⟩
    · unfold rf_C; rw [k4 98 (by decide)]; exact hT5
    · unfold rf_D; rw [k5 25 (by decide), k4 116 (by decide)]; exact hT7
end
