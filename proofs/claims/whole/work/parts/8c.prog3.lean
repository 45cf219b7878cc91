/-! drop, end, holds, add -/
section
variable {M N : am_M} {bg : Nat} {op : Bool} {pr ln : Nat → Nat} {cd : Nat → Nat → Nat → Int32}
theorem pg_ok_le {bg' : Nat} (hok : pg_ok bg pr ln cd) (h : bg' ≤ bg) : pg_ok bg' pr ln cd := ⟨by have := hok.1; omega, fun b hb => hok.2 b (by omega)⟩
theorem op_drop (hok : pg_ok bg pr ln cd) (hM : cl_Z M bg op pr ln cd) (hN : rf_P N bg op pr ln cd) : ∃ r M' N' bg', fd_57 M = some (r, M') ∧ fd_133 N = some (r, N') ∧ cl_Z M' bg' false pr ln cd ∧ rf_P N' bg' false pr ln cd ∧ pg_ok bg' pr ln cd ∧ fr_p M M' ∧ fr_ [96] N N' ∧ fs_ [6, 7] N N' ∧ pg_f bg op = pg_f bg' false := by
  obtain ⟨⟨m1, m2, m3⟩, m4⟩ := hM
  obtain ⟨n1, n2, n3⟩ := hN
  have b6 := hok.1
  cases hop : op with
  | false =>
    refine ⟨0, M, N, bg, ?_, ?_, ⟨⟨m1, by rw [m2, hop], m3⟩, fun h => by cases h⟩, ⟨n1, by rw [n2, hop], n3⟩, hok, fr_p_refl _, fr_refl _ _, fs_refl _ _, rfl⟩
    · unfold fd_57 fd_58; rw [m2, pu_b_if, if_neg (by simp [hop])]; rfl
    · unfold fd_133; rw [n2, pu_b_if, if_neg (by simp [hop])]
  | true =>
    obtain ⟨g1, _⟩ := m4 hop
    have es : nI bg - (1 : Int32) = nI (bg - 1) := pk_sub (b := 1) g1
    refine ⟨1, ds_w (ds_w M 1 3 0) 1 2 (nI (bg - 1)), ds_w (ds_w N 96 7 0) 96 6 (nI (bg - 1)), bg - 1, ?_, ?_, ⟨⟨dw_s _ _ _ _, ?_, fun b hb => ?_⟩, fun h => by cases h⟩, ⟨dw_s _ _ _ _, ?_, fun b hb => ?_⟩, pg_ok_le hok (by omega), fr_p_w (fr_p_w (fr_p_refl _) (by decide)) (by decide), fr_w (fr_w (fr_refl _ _) (by decide)) (by decide), fs_w (fs_w (fs_refl _ _) (by simp)) (by simp), rfl⟩
    · unfold fd_57 fd_58
      rw [m2, pu_b_if, if_pos hop, Option.bind_some]
      simp only []
      rw [show ds_w M 1 3 0 1 2 = nI bg by rw [dw_n _ _ (by decide)]; exact m1, es]; rfl
    · unfold fd_133
      rw [n2, pu_b_if, if_pos hop, show ds_w N 96 7 0 96 6 = nI bg by rw [dw_n _ _ (by decide)]; exact n1, es]
    · rw [dw_n _ _ (by decide), dw_s]; rfl
    · have hl10 := (hok.2 b (by omega)).2.2.1
      obtain ⟨p1, p2, p3⟩ := m3 b (by omega)
      refine ⟨?_, ?_, fun k i hk hi => ?_⟩
      · rw [dw_r _ _ _ (by omega), dw_r _ _ _ (by omega)]; exact p1
      · rw [dw_r _ _ _ (by omega), dw_r _ _ _ (by omega)]; exact p2
      · rw [dw_r _ _ _ (by omega), dw_r _ _ _ (by omega)]; exact p3 k i hk hi
    · rw [dw_n _ _ (by decide), dw_s]; rfl
    · rw [dw_r _ _ _ (by decide), dw_r _ _ _ (by decide), dw_r _ _ _ (by decide), dw_r _ _ _ (by decide), dw_r _ _ _ (by decide), dw_r _ _ _ (by decide)]; exact n3 b (by omega)
theorem rf_P_f {N' : am_M} (H : rf_P N bg op pr ln cd) (h6 : N' 96 6 = N 96 6) (h7 : N' 96 7 = N 96 7) (h1 : N' 102 = N 102) (h2 : N' 103 = N 103) (h3 : N' 104 = N 104) : rf_P N' bg op pr ln cd := by
  refine ⟨by rw [h6]; exact H.1, by rw [h7]; exact H.2.1, fun b hb => ?_⟩
  rw [h1, h2, h3]; exact H.2.2 b hb
theorem op_end (hok : pg_ok bg pr ln cd) (hM : cl_Z M bg op pr ln cd) (hN : rf_P N bg op pr ln cd) : ∃ r M' N' op', fd_54 M = some (r, M') ∧ fd_134 N = some (r, N') ∧ cl_Z M' bg op' pr ln cd ∧ rf_P N' bg op' pr ln cd ∧ fr_p M M' ∧ fr_ [96, 105, 106, 107] N N' ∧ fs_ [7, 14] N N' ∧ pg_f bg op ≤ pg_f bg op' := by
  obtain ⟨⟨m1, m2, m3⟩, m4⟩ := hM
  have b6 := hok.1
  cases hop : op with
  | false =>
    refine ⟨0, M, N, false, ?_, ?_, ⟨⟨m1, by rw [m2, hop], m3⟩, fun h => by cases h⟩, by rw [← hop]; exact hN, fr_p_refl _, fr_refl _ _, fs_refl _ _, by rw [← hop]; exact Nat.le_refl _⟩
    · unfold fd_54 fd_55; rw [m2, pu_b_if, if_neg (by simp [hop])]; rfl
    · unfold fd_134; rw [hN.2.1, pu_b_if, if_neg (by simp [hop])]
  | true =>
    obtain ⟨g1, g2⟩ := m4 hop
    obtain ⟨N1, e1, e2, e3, e4⟩ := rs_135 (b := bg - 1) hok (by omega) hN
    have s1 : fd_54 M = (if pu_b (ty_at (pr (bg - 1)) (cd (bg - 1)) (ln (bg - 1))).2.2.2 = 0 then some (1, ds_w M 1 3 0) else some (0, M)) := by
      unfold fd_54 fd_55 fd_56
      rw [m2, pu_b_if, if_pos hop, g2.2.1, if_pos sq_fit, Option.bind_some]
      cases (ty_at (pr (bg - 1)) (cd (bg - 1)) (ln (bg - 1))).2.2.2 <;> rfl
    have s2 : fd_134 N = (if pu_b (ty_at (pr (bg - 1)) (cd (bg - 1)) (ln (bg - 1))).2.2.2 = 0 then some (1, ds_w N1 96 7 0) else some (0, N1)) := by
      unfold fd_134
      rw [hN.2.1, pu_b_if, if_pos hop, e1, Option.bind_some, e2.2]
    have hP1 : rf_P N1 bg op pr ln cd := rf_P_f hN (e4 6 (by decide)) (e4 7 (by decide)) (e3 _ (by decide)) (e3 _ (by decide)) (e3 _ (by decide))
    rw [pu_b_if] at s1 s2
    cases hb : (ty_at (pr (bg - 1)) (cd (bg - 1)) (ln (bg - 1))).2.2.2 with
    | true =>
      rw [hb, if_pos rfl] at s1 s2
      exact ⟨0, M, N1, true, s1, s2, ⟨⟨m1, by rw [m2, hop], m3⟩, fun _ => ⟨g1, g2⟩⟩, by rw [← hop]; exact hP1, fr_p_refl _, e3, fs_up e4 (by simp), by rw [← hop]; exact Nat.le_refl _⟩
    | false =>
      rw [hb, if_neg (by simp)] at s1 s2
      refine ⟨1, _, _, false, s1, s2, ⟨⟨by rw [dw_n _ _ (by decide)]; exact m1, dw_s _ _ _ _, fun b hb => ?_⟩, fun h => by cases h⟩, ⟨by rw [dw_n _ _ (by decide)]; exact hP1.1, dw_s _ _ _ _, fun b hb => ?_⟩, fr_p_w (fr_p_refl _) (by decide), fr_w e3 (by decide), fs_w (fs_up e4 (by simp)) (by simp), ?_⟩
      · have hl10 := (hok.2 b hb).2.2.1
        obtain ⟨p1, p2, p3⟩ := m3 b hb
        refine ⟨?_, ?_, fun k i hk hi => ?_⟩
        · rw [dw_r _ _ _ (by omega)]; exact p1
        · rw [dw_r _ _ _ (by omega)]; exact p2
        · rw [dw_r _ _ _ (by omega)]; exact p3 k i hk hi
      · rw [dw_r _ _ _ (by decide), dw_r _ _ _ (by decide), dw_r _ _ _ (by decide)]; exact hP1.2.2 b hb
      · unfold pg_f; simp
theorem op_holds (hok : pg_ok bg pr ln cd) (hM : cl_Z M bg op pr ln cd) (hN : rf_P N bg op pr ln cd) (v : Int32) : ∃ r N', fd_59 v M = some (r, M) ∧ fd_153 v N = some (r, N') ∧ rf_P N' bg op pr ln cd ∧ fr_ [96, 105, 106, 107] N N' ∧ fs_ [14] N N' := by
  obtain ⟨⟨m1, m2, m3⟩, m4⟩ := hM
  unfold fd_59 fd_60 fd_153
  rw [m2, hN.2.1, pu_b_if, pu_b_if]
  cases hop : op with
  | false => exact ⟨-1, N, by rw [if_neg (by simp)]; rfl, by rw [if_neg (by simp)], by rw [← hop]; exact hN, fr_refl _ _, fs_refl _ _⟩
  | true =>
    rw [if_pos rfl, if_pos rfl, sq_29, show (6 : Int32) = nI 6 from rfl, sq_148, Option.bind_some, Option.bind_some, pu_b_if, pu_b_if]
    by_cases hr : pu_r v 6 = true
    · rw [if_pos hr, if_pos hr]
      obtain ⟨j, hj, rfl⟩ := pu_r_of (by decide) hr
      obtain ⟨g1, g2⟩ := m4 hop
      obtain ⟨N1, e1, e2, e3, e4⟩ := rs_135 (b := bg - 1) hok (by omega) hN
      simp only []
      rw [e1, Option.bind_some]
      unfold fd_61 fd_42
      simp (disch := omega) only [pu_cl, pu_g2]
      rw [(e2.1 j hj).2.1, (e2.1 j hj).1, (g2.1 j hj).2.1, if_pos sq_fit, Option.bind_some, pu_b_if, pu_b_if]
      have hP1 : rf_P N1 bg op pr ln cd := rf_P_f hN (e4 6 (by decide)) (e4 7 (by decide)) (e3 _ (by decide)) (e3 _ (by decide)) (e3 _ (by decide))
      rw [hop] at hP1
      cases (ty_at (pr (bg - 1)) (cd (bg - 1)) (ln (bg - 1))).2.1 j with
      | true => exact ⟨-2, N1, rfl, rfl, hP1, e3, e4⟩
      | false =>
        rw [if_neg (by simp), if_neg (by simp)]
        simp only [Option.bind_some]
        rw [(g2.1 j hj).1]
        exact ⟨_, N1, rfl, rfl, hP1, e3, e4⟩
    · rw [if_neg hr, if_neg hr]
      exact ⟨-1, N, rfl, rfl, by rw [← hop]; exact hN, fr_refl _ _, fs_refl _ _⟩
end
