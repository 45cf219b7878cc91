/-! add -/
theorem ty_at_eq {p : Nat} {cd cd' : Nat → Nat → Int32} : ∀ k, (∀ i, i < k → cd' i = cd i) → ty_at p cd' k = ty_at p cd k
  | 0, _ => rfl
  | k + 1, h => by rw [ty_at, ty_at, h k (by omega), ty_at_eq k (fun i hi => h i (by omega))]
def pg_c (a1 a2 a3 a4 a5 : Int32) : Nat → Int32 := fun i => if i = 0 then a1 else if i = 1 then a2 else if i = 2 then a3 else if i = 3 then a4 else a5
section
variable {M N : am_M} {bg : Nat} {op : Bool} {pr ln : Nat → Nat} {cd : Nat → Nat → Nat → Int32}
theorem op_add (hok : pg_ok bg pr ln cd) (hM : cl_Z M bg op pr ln cd) (hN : rf_P N bg op pr ln cd) (a1 a2 a3 a4 a5 : Int32) : ∃ r M' N' ln' cd', fd_21 a1 a2 a3 a4 a5 M = some (r, M') ∧ fd_145 a1 a2 a3 a4 a5 N = some (r, N') ∧ cl_Z M' bg op pr ln' cd' ∧ rf_P N' bg op pr ln' cd' ∧ pg_ok bg pr ln' cd' ∧ fr_p M M' ∧ fr_ [96, 103, 104, 105, 106, 107] N N' ∧ fs_ [14] N N' := by
  obtain ⟨⟨m1, m2, m3⟩, m4⟩ := hM
  have b6 := hok.1
  cases hop : op with
  | false =>
    subst hop
    refine ⟨1, M, N, ln, cd, ?_, ?_, ⟨⟨m1, m2, m3⟩, m4⟩, hN, hok, fr_p_refl _, fr_refl _ _, fs_refl _ _⟩
    · unfold fd_21 fd_22; rw [m2, pu_b_if, if_neg (by simp)]; rfl
    · unfold fd_145 fd_146; rw [hN.2.1, pu_b_if, if_neg (by simp)]; rfl
  | true =>
    subst hop
    obtain ⟨g1, g2⟩ := m4 rfl
    obtain ⟨b, hb⟩ : ∃ b, bg = b + 1 := ⟨bg - 1, by omega⟩
    subst hb
    simp only [Nat.add_sub_cancel] at g2
    obtain ⟨o1, o2, o3, o4⟩ := hok.2 b (by omega)
    obtain ⟨p1, p2, p3⟩ := m3 b (by omega)
    obtain ⟨q1, q2, q3⟩ := hN.2.2 b (by omega)
    have es : nI (b + 1) - (1 : Int32) = nI b := pk_sub (a := b + 1) (b := 1) (by omega)
    have s1 : fd_21 a1 a2 a3 a4 a5 M = (if ln b < 10 then ((fd_27 (9 + 12 * b + ln b) (ds_w (ds_w (ds_w (ds_w (ds_w M (9 + 12 * b + ln b) 0 a1) (9 + 12 * b + ln b) 1 a2) (9 + 12 * b + ln b) 2 a3) (9 + 12 * b + ln b) 3 a4) (9 + 12 * b + ln b) 4 a5)).bind fun q13 => if q13.1 = (0 : Int32) then ((fd_45 (9 + 12 * b + ln b) q13.2).bind fun q16 => (fd_53 (7 + 12 * b) q16).bind fun q18 => some (q13.1, q18)) else (some (q13.1, q13.2))) else some (2, M)) := by
      unfold fd_21
      rw [ob_id]
      unfold fd_22
      rw [m2, pu_b_if, if_pos rfl, m1, es]
      simp (disch := omega) only [pu_cl, pu_g2]
      unfold fd_23 fd_24
      rw [p2]
      by_cases c : ln b < 10
      · rw [if_pos (show nI (ln b) < (10 : Int32) from (pu_lt (b := 10) (by omega) (by decide)).mpr c), if_pos c, Option.bind_some, if_pos rfl]
        simp only [Option.bind_some, p2]
        unfold fd_25
        simp (disch := omega) only [pu_cl, pu_g2]
        rw [Option.bind_some]
        unfold fd_26
        rw [Option.bind_some, show 7 + 12 * b + 2 + ln b = 9 + 12 * b + ln b by omega]
      · rw [if_neg (show ¬ nI (ln b) < (10 : Int32) from fun g => c ((pu_lt (b := 10) (by omega) (by decide)).mp g)), if_neg c, Option.bind_some, if_neg pu_10]
    by_cases c10 : ¬ ln b < 10
    · refine ⟨2, M, N, ln, cd, by rw [s1, if_neg c10], ?_, ⟨⟨m1, m2, m3⟩, m4⟩, hN, hok, fr_p_refl _, fr_refl _ _, fs_refl _ _⟩
      unfold fd_145 fd_146
      rw [hN.2.1, pu_b_if, if_pos rfl, hN.1, es]
      simp (disch := omega) only [pu_cl, pu_g2]
      rw [q2, if_pos (show nI (ln b) = (10 : Int32) by rw [show ln b = 10 by omega]; rfl)]; rfl
    have c10 : ln b < 10 := Classical.not_not.mp c10
    rw [if_pos c10] at s1
    -- the place behind the last statement
    generalize hh : 9 + 12 * b + ln b = h at s1
    have hh79 : h < 79 ∧ 9 ≤ h := by omega
    obtain ⟨M1, hM1⟩ : ∃ M1, M1 = ds_w (ds_w (ds_w (ds_w (ds_w M h 0 a1) h 1 a2) h 2 a3) h 3 a4) h 4 a5 := ⟨_, rfl⟩
    rw [← hM1] at s1
    have r0 : M1 h 0 = a1 := by rw [hM1]; simp [dw_x]
    have r1 : M1 h 1 = a2 := by rw [hM1]; simp [dw_x]
    have r2 : M1 h 2 = a3 := by rw [hM1]; simp [dw_x]
    have r3 : M1 h 3 = a4 := by rw [hM1]; simp [dw_x]
    have r4 : M1 h 4 = a5 := by rw [hM1]; simp [dw_x]
    have rr : ∀ x, x ≠ h → M1 x = M x := by
      intro x hx; rw [hM1, dw_r _ _ _ hx, dw_r _ _ _ hx, dw_r _ _ _ hx, dw_r _ _ _ hx, dw_r _ _ _ hx]
    have fr1 : fr_p M M1 := fun x hx => rr x (by omega)
    have Y1 : cl_Y M1 (ty_at (pr b) (cd b) (ln b)) := by
      unfold cl_Y; rw [rr 4 (by omega), rr 5 (by omega), rr 6 (by omega), rr 3 (by omega)]; exact g2
    have tw := ty_at_w o2 (fun k hk => o4 k hk) (ln b) (Nat.le_refl _)
    have prM : ∀ b', b' < b + 1 → M1 (7 + 12 * b') 1 = nI (pr b') ∧ pr b' < 6 := fun b' hb' => ⟨by rw [rr _ (by omega)]; exact (m3 b' hb').1, (hok.2 b' hb').2.1⟩
    have keepM : ∀ M2 : am_M, (∀ x, x ≠ h → x ∉ [3, 4, 5, 6] → M2 x = M x) → cl_P M2 (b + 1) true pr ln cd := by
      intro M2 h2
      refine ⟨by rw [h2 1 (by omega) (by decide)]; exact m1, by rw [h2 1 (by omega) (by decide)]; exact m2, fun b' hb' => ?_⟩
      obtain ⟨x1, x2, x3⟩ := m3 b' hb'
      have hl10 := (hok.2 b' hb').2.2.1
      refine ⟨by rw [h2 _ (by omega) (by simp; omega)]; exact x1, by rw [h2 _ (by omega) (by simp; omega)]; exact x2, fun k i hk hi => ?_⟩
      rw [h2 _ (by
        intro e
        have : b' = b := by omega
        subst this; omega) (by simp; omega)]
      exact x3 k i hk hi
    have s2 : fd_146 a1 a2 a3 a4 a5 N = ((fd_147 a1 a2 a3 a4 a5 N).bind fun q4 => if q4.1 = (0 : Int32) then (some ((3 : Int32), q4.2)) else ((fd_135 q4.2).bind fun q7 => if a1 = (9 : Int32) then (if (q7 96 14) = (0 : Int32) then (fd_146_60 a1 a3 a4 a5 q7) else (some ((4 : Int32), q7))) else (fd_146_60 a1 a3 a4 a5 q7))) := by
      unfold fd_146
      rw [hN.2.1, pu_b_if, if_pos rfl, hN.1, es]
      simp (disch := omega) only [pu_cl, pu_g2]
      rw [q2, if_neg (show ¬ nI (ln b) = (10 : Int32) from fun g => by have := (en_nI (t := 10) (by omega) (by decide)).mp g; omega)]
    rw [rs_147 hN.1, Option.bind_some, pu_b_if] at s2
    by_cases nm : ¬ st_nm (b + 1) a1 a2 a3 a4 a5 = true
    · have nm0 : st_nm (b + 1) a1 a2 a3 a4 a5 = false := by simpa using nm
      have e27 : fd_27 h M1 = some (3, M1) := by
        unfold fd_27
        rw [rr 1 (by omega), m1, cs_28 r0 r1 r2 r3 r4, nm0, Option.bind_some]; rfl
      rw [e27, Option.bind_some] at s1
      rw [if_neg nm] at s2
      refine ⟨3, M1, N, ln, cd, ?_, ?_, ⟨keepM M1 (fun x hx _ => rr x hx), fun _ => ⟨by omega, Y1⟩⟩, hN, hok, fr1, fr_refl _ _, fs_refl _ _⟩
      · rw [s1]; exact if_neg (show ¬ (3 : Int32) = 0 by decide)
      · unfold fd_145; rw [s2, Option.bind_some]; exact if_neg (show ¬ (3 : Int32) = 0 by decide)
    have nm : st_nm (b + 1) a1 a2 a3 a4 a5 = true := Classical.not_not.mp nm
    rw [if_pos nm] at s2
    obtain ⟨j', x', y', f', z', i1, i2⟩ := sm_of (by omega) nm
    obtain ⟨is, rg, _⟩ := sm_dn (by omega) i1 i2
    obtain ⟨N1, e1, e2, e3, e4⟩ := rs_135 (b := b) hok rfl hN
    have P1 : rf_P N1 (b + 1) true pr ln cd := rf_P_f hN (e4 6 (by decide)) (e4 7 (by decide)) (e3 _ (by decide)) (e3 _ (by decide)) (e3 _ (by decide))
    simp only [e1, Option.bind_some] at s2
    rw [rs_re e2 tw (fun b' hb' => ⟨(P1.2.2 b' hb').1, (hok.2 b' hb').2.1⟩) b6 is rg] at s2
    have e27 := cs_27 Y1 tw prM b6 (by rw [rr 1 (by omega)]; exact m1) r0 r1 r2 r3 r4 nm is rg
    rw [e27, Option.bind_some] at s1
    by_cases ac : ¬ st_re pr (ty_at (pr b) (cd b) (ln b)) (pg_d a1) (pg_d a3) (pg_d a4) (pg_d a5) = 0
    · have lt10 : st_re pr (ty_at (pr b) (cd b) (ln b)) (pg_d a1) (pg_d a3) (pg_d a4) (pg_d a5) < 1000 := by
        have t9 : ∀ j cy cz y f, st_tl pr j cy cz y f < 10 := by
          intro j cy cz y f; unfold st_tl; repeat (first | (split) | omega)
        unfold st_re st_fr
        have := t9 (pg_d a1) ((ty_c (ty_at (pr b) (cd b) (ln b)) (pg_d a3)).getD 0) ((ty_c (ty_at (pr b) (cd b) (ln b)) (pg_d a5)).getD 0) (pg_d a3) (pg_d a4)
        repeat (first | (split) | omega)
      have ne : ¬ nI (st_re pr (ty_at (pr b) (cd b) (ln b)) (pg_d a1) (pg_d a3) (pg_d a4) (pg_d a5)) = (0 : Int32) := fun g => ac ((en_nI (t := 0) lt10 (by decide)).mp g)
      refine ⟨nI (st_re pr (ty_at (pr b) (cd b) (ln b)) (pg_d a1) (pg_d a3) (pg_d a4) (pg_d a5)), M1, N1, ln, cd, ?_, ?_, ⟨keepM M1 (fun x hx _ => rr x hx), fun _ => ⟨by omega, Y1⟩⟩, P1, hok, fr1, fr_up e3 (by simp), e4⟩
      · rw [s1]; exact if_neg ne
      · unfold fd_145; rw [s2, Option.bind_some]; exact if_neg ne
    have ac : st_re pr (ty_at (pr b) (cd b) (ln b)) (pg_d a1) (pg_d a3) (pg_d a4) (pg_d a5) = 0 := Classical.not_not.mp ac
    rw [ac] at s1 s2
    obtain ⟨M2, k1, k2, k3⟩ := cs_45 (h := h) (by simp; omega) Y1 tw r0 r1 r2 r3 r4 is rg ac
    rw [if_pos (show (nI 0, M1).1 = (0 : Int32) from rfl)] at s1
    simp only [k1, Option.bind_some] at s1
    unfold fd_53 at s1
    rw [Option.bind_some] at s1
    have e72 : M2 (7 + 12 * b) 2 = nI (ln b) := by rw [k3 _ (by simp; omega), rr _ (by omega)]; exact p2
    rw [e72, nI_1] at s1
    -- the reference writes
    have s3 : fd_145 a1 a2 a3 a4 a5 N = some (0, ds_w (ds_w (ds_w (ds_w (ds_w (ds_w N1 104 (50 * b + 5 * ln b) a1) 104 (50 * b + 5 * ln b + 1) a2) 104 (50 * b + 5 * ln b + 2) a3) 104 (50 * b + 5 * ln b + 3) a4) 104 (50 * b + 5 * ln b + 4) a5) 103 b (nI (ln b + 1))) := by
      unfold fd_145
      rw [s2, Option.bind_some, if_pos (show (nI 0, N1).1 = (0 : Int32) from rfl)]
      simp only []
      rw [P1.1, es, pu_cl (show b < 1000 by omega), (P1.2.2 b (by omega)).2.1, show ((50 : Int32) * nI b) = nI (50 * b) from pk_mul 50 b, show ((5 : Int32) * nI (ln b)) = nI (5 * ln b) from pk_mul 5 (ln b), nI_add, nI_1, pu_a2, pu_a3, pu_a4, nI_1, pu_cl (show 50 * b + 5 * ln b < 1000 by omega), pu_cl (show 50 * b + 5 * ln b + 1 < 1000 by omega), pu_cl (show 50 * b + 5 * ln b + 2 < 1000 by omega), pu_cl (show 50 * b + 5 * ln b + 3 < 1000 by omega), pu_cl (show 50 * b + 5 * ln b + 4 < 1000 by omega), pu_g2 (show b < 6 by omega) (by omega), pu_g2 (show 50 * b + 5 * ln b < 300 by omega) (by omega), pu_g2 (show 50 * b + 5 * ln b + 1 < 300 by omega) (by omega), pu_g2 (show 50 * b + 5 * ln b + 2 < 300 by omega) (by omega), pu_g2 (show 50 * b + 5 * ln b + 3 < 300 by omega) (by omega), pu_g2 (show 50 * b + 5 * ln b + 4 < 300 by omega) (by omega), pu_g2 (show b < 6 by omega) (by omega), pu_g2 (show b < 6 by omega) (by omega)]
    obtain ⟨ln', l1, lnb⟩ : ∃ ln' : Nat → Nat, ln' b = ln b + 1 ∧ ∀ b', b' ≠ b → ln' b' = ln b' := ⟨fun b' => if b' = b then ln b + 1 else ln b', if_pos rfl, fun b' e => if_neg e⟩
    obtain ⟨cd', cdn, cdo⟩ : ∃ cd' : Nat → Nat → Nat → Int32, cd' b (ln b) = pg_c a1 a2 a3 a4 a5 ∧ ∀ b' k, ¬ (b' = b ∧ k = ln b) → cd' b' k = cd b' k := ⟨fun b' k => if b' = b ∧ k = ln b then pg_c a1 a2 a3 a4 a5 else cd b' k, if_pos ⟨rfl, rfl⟩, fun b' k e => if_neg e⟩
    have tat : ∀ b' k, b' ≠ b ∨ k ≤ ln b → ty_at (pr b') (cd' b') k = ty_at (pr b') (cd b') k := by
      intro b' k hc
      refine ty_at_eq k (fun i hi => ?_)
      exact cdo b' i (by rintro ⟨x1, x2⟩; rcases hc with g | g; exact g x1; omega)
    refine ⟨nI 0, _, _, ln', cd', s1, s3, ⟨⟨?_, ?_, fun b' hb' => ?_⟩, fun _ => ⟨by omega, ?_⟩⟩, ⟨?_, ?_, fun b' hb' => ?_⟩, ⟨b6, fun b' hb' => ?_⟩, ?_, ?_, ?_⟩
    · rw [dw_r _ _ _ (by omega), k3 1 (by decide), rr 1 (by omega)]; exact m1
    · rw [dw_r _ _ _ (by omega), k3 1 (by decide), rr 1 (by omega)]; exact m2
    · by_cases eb : b' = b
      · subst eb
        rw [l1]
        refine ⟨?_, dw_s _ _ _ _, fun k i hk hi => ?_⟩
        · rw [dw_n _ _ (by decide), k3 _ (by simp; omega), rr _ (by omega)]; exact p1
        · rw [dw_r _ _ _ (by omega), k3 _ (by simp; omega)]
          by_cases ek : k = ln b'
          · subst ek
            rw [hh, cdn]
            unfold pg_c
            rcases (show i = 0 ∨ i = 1 ∨ i = 2 ∨ i = 3 ∨ i = 4 by omega) with rfl | rfl | rfl | rfl | rfl
            · exact r0
            · exact r1
            · exact r2
            · exact r3
            · exact r4
          · rw [cdo b' k (fun g => ek g.2), rr _ (by omega)]; exact p3 k i (by omega) hi
      · rw [lnb b' eb]
        obtain ⟨x1, x2, x3⟩ := m3 b' hb'
        have hl10 := (hok.2 b' hb').2.2.1
        refine ⟨?_, ?_, fun k i hk hi => ?_⟩
        · rw [dw_r _ _ _ (by omega), k3 _ (by simp; omega), rr _ (by omega)]; exact x1
        · rw [dw_r _ _ _ (by omega), k3 _ (by simp; omega), rr _ (by omega)]; exact x2
        · rw [dw_r _ _ _ (by omega), k3 _ (by simp; omega), rr _ (by omega), cdo b' k (fun g => eb g.1)]; exact x3 k i hk hi
    · rw [Nat.add_sub_cancel, l1, ty_at, tat b (ln b) (Or.inr (Nat.le_refl _)), cdn]
      unfold cl_Y
      rw [dw_r _ _ _ (by omega), dw_r _ _ _ (by omega), dw_r _ _ _ (by omega), dw_r _ _ _ (by omega)]
      exact k2
    · rw [dw_r _ _ _ (by decide), dw_r _ _ _ (by decide), dw_r _ _ _ (by decide), dw_r _ _ _ (by decide), dw_r _ _ _ (by decide), dw_r _ _ _ (by decide)]; exact P1.1
    · rw [dw_r _ _ _ (by decide), dw_r _ _ _ (by decide), dw_r _ _ _ (by decide), dw_r _ _ _ (by decide), dw_r _ _ _ (by decide), dw_r _ _ _ (by decide)]; exact P1.2.1
    · obtain ⟨x1, x2, x3⟩ := P1.2.2 b' hb'
      have hl10 := (hok.2 b' hb').2.2.1
      refine ⟨?_, ?_, fun k i hk hi => ?_⟩
      · rw [dw_r _ _ _ (by decide), dw_r _ _ _ (by decide), dw_r _ _ _ (by decide), dw_r _ _ _ (by decide), dw_r _ _ _ (by decide), dw_r _ _ _ (by decide)]; exact x1
      · by_cases eb : b' = b
        · subst eb; rw [dw_s, l1]
        · rw [dw_n _ _ eb, lnb b' eb, dw_r _ _ _ (by decide), dw_r _ _ _ (by decide), dw_r _ _ _ (by decide), dw_r _ _ _ (by decide), dw_r _ _ _ (by decide)]; exact x2
      · rw [dw_r _ _ _ (by decide)]
        by_cases ek : b' = b ∧ k = ln b
        · obtain ⟨rfl, rfl⟩ := ek
          rw [cdn]
          unfold pg_c
          rcases (show i = 0 ∨ i = 1 ∨ i = 2 ∨ i = 3 ∨ i = 4 by omega) with rfl | rfl | rfl | rfl | rfl <;> simp [dw_x]
        · rw [cdo b' k ek]
          have kk : k < ln b' := by
            by_cases eb : b' = b
            · subst eb; rw [l1] at hk; have : k ≠ ln b' := fun g => ek ⟨rfl, g⟩; omega
            · rw [lnb b' eb] at hk; exact hk
          have ne : ∀ c, c < 5 → 50 * b' + 5 * k + i ≠ 50 * b + 5 * ln b + c := by
            intro c hc e
            by_cases eb : b' = b
            · subst eb; exact ek ⟨rfl, by omega⟩
            · omega
          rw [dw_n _ _ (ne 4 (by decide)), dw_n _ _ (ne 3 (by decide)), dw_n _ _ (ne 2 (by decide)), dw_n _ _ (ne 1 (by decide)), dw_n _ _ (show 50 * b' + 5 * k + i ≠ 50 * b + 5 * ln b from ne 0 (by decide))]
          exact x3 k i kk hi
    · obtain ⟨x1, x2, x3, x4⟩ := hok.2 b' hb'
      refine ⟨x1, x2, ?_, fun k hk => ?_⟩
      · by_cases eb : b' = b
        · rw [eb, l1]; omega
        · rw [lnb b' eb]; exact x3
      · by_cases ek : b' = b ∧ k = ln b
        · obtain ⟨rfl, rfl⟩ := ek
          rw [tat b' (ln b') (Or.inr (Nat.le_refl _)), cdn]
          exact ⟨is, rg, ac⟩
        · have kk : k < ln b' := by
            by_cases eb : b' = b
            · subst eb; rw [l1] at hk; have : k ≠ ln b' := fun g => ek ⟨rfl, g⟩; omega
            · rw [lnb b' eb] at hk; exact hk
          rw [tat b' k (by
            by_cases eb : b' = b
            · subst eb; exact Or.inr (by omega)
            · exact Or.inl eb), cdo b' k ek]
          exact x4 k kk
    · refine fr_p_w (fr_p_tr fr1 (fr_p_of k3 (by simp))) (by omega)
    · exact fr_w (fr_w (fr_w (fr_w (fr_w (fr_w (fr_up e3 (by simp)) (by decide)) (by decide)) (by decide)) (by decide)) (by decide)) (by decide)
    · exact fs_w (fs_w (fs_w (fs_w (fs_w (fs_w e4 (by simp)) (by simp)) (by simp)) (by simp)) (by simp)) (by simp)
end
