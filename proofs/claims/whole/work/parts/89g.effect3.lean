/-! The effect: class -/
section
variable {M : am_M} {t : ty_T} {pr : Nat → Nat} {bg h : Nat}
theorem pu_b_and (b : Bool) : (pu_b b &&& 1) = pu_b b := by cases b <;> decide
/-- become -/
theorem cs_46 {x c : Nat} (H : cl_Y M t) (hw : ty_w t) (hx : x < 6) : ∃ M', fd_46 (nI x) (nI c) M = some M' ∧ cl_Y M' (ty_bc x c t) ∧ fr_ [4, 5, 6] M M' := by
  unfold fd_46
  simp (disch := omega) only [pu_cl, pu_g2]
  rw [H.2.1, pu_b_and, show ((0 : Int32) &&& 1) = 0 from by decide]
  refine ⟨_, rfl, ⟨fun k hk => ?_, ?_, ?_, ?_⟩, fr_w (fr_w (fr_w (fr_refl _ _) (by decide)) (by decide)) (by decide)⟩
  · have := H.1 k hk
    unfold ty_bc
    by_cases e : k = x
    · subst e
      cases hb : t.2.2.2 with
      | true => simp [dw_x, en_o_s, pu_b]
      | false =>
        have w := hw.2 hb k
        simp [dw_x, en_o_s, pu_b, w]
    · simp [dw_x, e, this]
  · rw [dw_r _ _ _ (by decide), dw_r _ _ _ (by decide), dw_r _ _ _ (by decide)]; exact H.2.1
  · rw [dw_r _ _ _ (by decide), dw_r _ _ _ (by decide), dw_n _ _ (by omega)]; exact H.2.2.1
  · rw [dw_r _ _ _ (by decide), dw_n _ _ (by omega), dw_r _ _ _ (by decide)]; exact H.2.2.2
/-- emptied -/
theorem cs_47 {y : Nat} (H : cl_Y M t) (hy : y < 6) : ∃ M', fd_47 (nI y) M = some (en_o (t.1 y), M') ∧ cl_Y M' (ty_em y t) ∧ fr_ [4] M M' := by
  unfold fd_47
  simp (disch := omega) only [pu_cl, pu_g2]
  rw [(H.1 y hy).1]
  refine ⟨_, rfl, ⟨fun k hk => ?_, ?_, ?_, ?_⟩, fr_w (fr_refl _ _) (by decide)⟩
  · have := H.1 k hk
    unfold ty_em
    by_cases e : k = y
    · subst e; simp [dw_x, this]; rfl
    · simp [dw_x, e, this]
  · rw [dw_r _ _ _ (by decide)]; exact H.2.1
  · rw [dw_n _ _ (by omega)]; exact H.2.2.1
  · rw [dw_r _ _ _ (by decide)]; exact H.2.2.2
/-- enterBlock -/
theorem cs_50_7 (hw : ty_w t) : ∀ (k j f : Nat) (M : am_M), j + k = 6 → k < f → (∀ x, x < 6 → M 4 x = en_o (t.1 x)) → (∀ x, x < j → M 5 x = pu_b ((ty_op t).2.1 x)) → ∃ M', fd_50_7 f (nI j) M = some M' ∧ (∀ x, x < 6 → M' 5 x = pu_b ((ty_op t).2.1 x)) ∧ M' 5 6 = 1 ∧ fr_ [5] M M'
  | _, _, 0, _, _, hf, _, _ => by omega
  | 0, j, f + 1, M, hj, _, h4, h5 => by
    rw [un_50_7]
    simp (disch := omega) only [pu_y6]
    rw [if_neg (by decide)]
    refine ⟨_, rfl, fun x hx => ?_, ?_, fr_w (fr_refl _ _) (by decide)⟩
    · rw [dw_n _ _ (by show x ≠ 6; omega)]; exact h5 x (by omega)
    · exact dw_s _ _ _ _
  | k + 1, j, f + 1, M, hj, hf, h4, h5 => by
    rw [un_50_7]
    simp (disch := omega) only [pu_x6]
    have step : ∀ b : Bool, b = (ty_op t).2.1 j → ∃ M', fd_50_43 (fd_50_7 f) (nI j) (nI j) (pu_b b) M = some M' ∧ (∀ x, x < 6 → M' 5 x = pu_b ((ty_op t).2.1 x)) ∧ M' 5 6 = 1 ∧ fr_ [5] M M' := by
      intro b hb
      unfold fd_50_43
      simp (disch := omega) only [pu_cl, pu_g2]
      rw [nI_1, pu_b_and]
      obtain ⟨M', e1, e2, e3, e4⟩ := cs_50_7 hw k (j + 1) f (ds_w M 5 j (pu_b b)) (by omega) (by omega) (fun x hx => by rw [dw_r _ _ _ (by decide)]; exact h4 x hx) (fun x hx => by
        by_cases e : x = j
        · subst e; rw [dw_s, hb]
        · rw [dw_n _ _ e]; exact h5 x (by omega))
      exact ⟨M', e1, e2, e3, fr_tr (fr_w (fr_refl _ _) (by decide)) e4⟩
    unfold fd_35
    simp (disch := omega) only [pu_cl, pu_g2]
    rw [h4 j (by omega)]
    cases hc : t.1 j with
    | none =>
      rw [if_pos (show en_o none = -1 from rfl), Option.bind_some, if_neg pu_10]
      exact step false (by unfold ty_op; simp [hc])
    | some c =>
      have c6 := hw.1 j c hc
      rw [if_neg (show ¬ en_o (some c) = -1 from en_nI_m1 (by omega)), Option.bind_some, if_pos rfl]
      simp only []
      rw [h4 j (by omega), hc, en_o_s, cs_16 c6, Option.bind_some, pu_b_if]
      have e0 : (ty_op t).2.1 j = !(st_sn c) := by unfold ty_op; simp [hc]
      cases hs : st_sn c with
      | true => rw [if_pos rfl]; exact step false (by rw [e0, hs]; rfl)
      | false => rw [if_neg (by simp)]; exact step true (by rw [e0, hs]; rfl)
/-- leaveBlock -/
theorem cs_20_7 : ∀ (k j f : Nat) (M : am_M), j + k = 6 → k < f → (∀ x, x < j → M 5 x = 0 ∧ M 6 x = 0) → ∃ M', fd_20_7 f (nI j) M = some M' ∧ (∀ x, x < 6 → M' 5 x = 0 ∧ M' 6 x = 0) ∧ M' 5 6 = 0 ∧ fr_ [5, 6] M M'
  | _, _, 0, _, _, hf, _ => by omega
  | 0, j, f + 1, M, hj, _, h5 => by
    rw [un_20_7]
    simp (disch := omega) only [pu_y6]
    rw [if_neg (by decide)]
    refine ⟨_, rfl, fun x hx => ?_, ?_, fr_w (fr_refl _ _) (by decide)⟩
    · rw [dw_n _ _ (by show x ≠ 6; omega), dw_r _ _ _ (by decide)]; exact h5 x (by omega)
    · exact dw_s _ _ _ _
  | k + 1, j, f + 1, M, hj, hf, h5 => by
    rw [un_20_7]
    simp (disch := omega) only [pu_x6, pu_cl, pu_g2]
    rw [nI_1, show ((0 : Int32) &&& 1) = 0 from by decide]
    obtain ⟨M', e1, e2, e3, e4⟩ := cs_20_7 k (j + 1) f (ds_w (ds_w M 5 j 0) 6 j 0) (by omega) (by omega) (fun x hx => by
      by_cases e : x = j
      · subst e; simp [dw_x]
      · simp [dw_x, e]; exact h5 x (by omega))
    exact ⟨M', e1, e2, e3, fr_tr (fr_w (fr_w (fr_refl _ _) (by decide)) (by decide)) e4⟩
theorem cs_20 (M : am_M) : ∃ M', fd_20 M = some M' ∧ (∀ x, x < 6 → M' 5 x = 0 ∧ M' 6 x = 0) ∧ M' 5 6 = 0 ∧ M' 3 3 = 0 ∧ fr_ [3, 5, 6] M M' := by
  obtain ⟨M', e1, e2, e3, e4⟩ := cs_20_7 6 0 1000 (ds_w M 3 3 0) rfl (by decide) (fun x hx => by omega)
  exact ⟨M', e1, e2, e3, by rw [e4 3 (by decide), dw_s], fr_tr (fr_w (fr_refl _ _) (by decide)) (fr_up e4 (by simp))⟩
/-- shut -/
theorem cs_51_12 {x r : Nat} {T : Nat → Option Nat} {B : Nat → Bool} (hx : x < 6) (hT : ∀ i c, T i = some c → c < 6) : ∀ (k j f : Nat) (M : am_M), j + k = 6 → k < f → (∀ i, i < 6 → M 6 i = pu_b (B i)) → M 4 6 = nI 2 → (∀ i, i < 6 → M 4 i = if i < j ∧ B i = true then -1 else en_o (T i)) → ∃ M', fd_51_12 f (nI x) (nI r) (nI j) M = some M' ∧ cl_Y M' (fun i => if i = x then some r else if B i = true then none else T i, fun _ => false, fun _ => false, false) ∧ fr_ [3, 4, 5, 6] M M'
  | _, _, 0, _, _, hf, _, _, _ => by omega
  | 0, j, f + 1, M, hj, _, h6, h46, h4 => by
    rw [un_51_12]
    simp (disch := omega) only [pu_y6]
    obtain ⟨M1, e1, e2, e3, e4, e5⟩ := cs_20 M
    rw [e1, Option.bind_some]
    have Y1 : cl_Y M1 (fun i => if B i = true then none else T i, fun _ => false, fun _ => false, false) := by
      refine ⟨fun i hi => ⟨?_, (e2 i hi).1, (e2 i hi).2⟩, e4, ?_, e3⟩
      · rw [e5 4 (by decide), h4 i hi]
        by_cases hb : B i = true
        · rw [if_pos ⟨by omega, hb⟩]; simp [hb]; rfl
        · rw [if_neg (fun g => hb g.2)]; simp [hb]
      · rw [e5 4 (by decide)]; exact h46
    obtain ⟨M2, g1, g2, g3⟩ := cs_46 (c := r) Y1 ⟨fun i c hc => by
      by_cases hb : B i = true
      · simp [hb] at hc
      · simp [hb] at hc; exact hT i c hc, fun _ _ => ⟨rfl, rfl⟩⟩ hx
    refine ⟨M2, by rw [g1]; rfl, ?_, fr_tr (fr_up e5 (by simp)) (fr_up g3 (by simp))⟩
    have : ty_bc x r (fun i => if B i = true then none else T i, fun _ => false, fun _ => false, false) = (fun i => if i = x then some r else if B i = true then none else T i, fun _ => false, fun _ => false, false) := by
      unfold ty_bc; simp
    rw [← this]; exact g2
  | k + 1, j, f + 1, M, hj, hf, h6, h46, h4 => by
    rw [un_51_12]
    simp (disch := omega) only [pu_x6, pu_cl, pu_g2]
    unfold fd_51_36 fd_47
    simp (disch := omega) only [pu_cl, pu_g2]
    rw [nI_1, h6 j (by omega), pu_b_if]
    by_cases hb : B j = true
    · rw [if_pos hb, Option.bind_some]
      obtain ⟨M', e1, e2, e3⟩ := cs_51_12 (r := r) hx hT k (j + 1) f (ds_w M 4 j (-1)) (by omega) (by omega) (fun i hi => by rw [dw_r _ _ _ (by decide)]; exact h6 i hi) (by rw [dw_n _ _ (by omega)]; exact h46) (fun i hi => by
        by_cases e : i = j
        · subst e; rw [dw_s, if_pos ⟨by omega, hb⟩]
        · rw [dw_n _ _ e, h4 i hi]
          by_cases c : i < j ∧ B i = true
          · rw [if_pos c, if_pos ⟨by omega, c.2⟩]
          · rw [if_neg c, if_neg (fun g => c ⟨by omega, g.2⟩)])
      exact ⟨M', e1, e2, fr_tr (fr_w (fr_refl _ _) (by decide)) e3⟩
    · rw [if_neg hb]
      exact cs_51_12 hx hT k (j + 1) f M (by omega) (by omega) h6 h46 (fun i hi => by
        rw [h4 i hi]
        by_cases c : i < j ∧ B i = true
        · rw [if_pos c, if_pos ⟨by omega, c.2⟩]
        · rw [if_neg c, if_neg]
          rintro ⟨g1, g2⟩
          by_cases e : i = j
          · subst e; exact hb g2
          · exact c ⟨by omega, g2⟩)
theorem cs_51 {x y c : Nat} (H : cl_Y M t) (hw : ty_w t) (hx : x < 6) (hy : y < 6) (hc : t.1 y = some c) (hc6 : c < 6) : ∃ M', fd_51 (nI x) (nI y) M = some M' ∧ cl_Y M' (ty_sh x y t) ∧ fr_ [3, 4, 5, 6] M M' := by
  unfold fd_51
  obtain ⟨M1, e1, e2, e3⟩ := cs_47 H hy
  rw [e1, Option.bind_some, hc, en_o_s, cs_52 hc6, Option.bind_some]
  obtain ⟨M2, g1, g2, g3⟩ := cs_51_12 (x := x) (r := gh_ou c) (T := fun i => if i = y then none else t.1 i) (B := t.2.2.1) hx (fun i c' h => by
    by_cases e : i = y
    · simp [e] at h
    · simp [e] at h; exact hw.1 i c' h) 6 0 1000 M1 rfl (by decide) (fun i hi => (e2.1 i hi).2.2) e2.2.2.1 (fun i hi => by rw [if_neg (by omega)]; exact (e2.1 i hi).1)
  refine ⟨M2, g1, ?_, fr_tr (fr_up e3 (by simp)) g3⟩
  have : ty_sh x y t = (fun i => if i = x then some (gh_ou c) else if t.2.2.1 i = true then none else if i = y then none else t.1 i, fun _ => false, fun _ => false, false) := by
    unfold ty_sh
    refine Prod.ext (funext fun i => ?_) rfl
    show (if i = x then some (gh_ou ((t.1 y).getD 0)) else if i = y ∨ t.2.2.1 i = true then none else t.1 i) = (if i = x then some (gh_ou c) else if t.2.2.1 i = true then none else if i = y then none else t.1 i)
    rw [hc]
    by_cases a : i = x
    · rw [if_pos a, if_pos a]; rfl
    · rw [if_neg a, if_neg a]
      by_cases b : t.2.2.1 i = true
      · rw [if_pos b, if_pos (Or.inr b)]
      · rw [if_neg b]
        by_cases d : i = y
        · rw [if_pos d, if_pos (Or.inl d)]
        · rw [if_neg d, if_neg (by rintro (g | g); exact d g; exact b g)]
  rw [this]; exact g2
/-- follow -/
theorem cs_45 {op x y f z : Int32} {j x' y' f' z' : Nat} (hh : h ∉ [3, 4, 5, 6]) (H : cl_Y M t) (hw : ty_w t) (h0 : M h 0 = op) (h1 : M h 1 = x) (h2 : M h 2 = y) (h3 : M h 3 = f) (h4 : M h 4 = z) (his : sm_is op x y f z j x' y' f' z') (hrg : sm_rg bg j x' y' f' z') (ha : st_re pr t j y' f' z' = 0) : ∃ M', fd_45 h M = some M' ∧ cl_Y M' (ty_ef j x' y' f' z' t) ∧ fr_ [3, 4, 5, 6] M M' := by
  obtain ⟨ac1, ac2, _, _, _⟩ := st_acc hw hrg ha
  obtain ⟨a1, _, _, _, a5, _⟩ := st_re_0 ha
  obtain ⟨rfl, ix, iy, iff, iz⟩ := his
  obtain ⟨rj, rx, ry, r8, rf, rz⟩ := hrg
  have nj : ∀ k, k < 11 → (nI j = nI k ↔ j = k) := fun k hk => en_nI (by omega) (by omega)
  have bc : ∀ (M1 : am_M) (t1 : ty_T) (c : Nat), st_ux j = true → cl_Y M1 t1 → ty_w t1 → fr_ [3, 4, 5, 6] M M1 → ∃ M', ((fd_46 x (nI c) M1).bind fun q => some q) = some M' ∧ cl_Y M' (ty_bc x' c t1) ∧ fr_ [3, 4, 5, 6] M M' := by
    intro M1 t1 c u k1 kw k2
    rw [ix u]
    obtain ⟨M', e1, e2, e3⟩ := cs_46 (c := c) k1 kw (rx u).1
    exact ⟨M', by rw [e1]; rfl, e2, fr_tr k2 (fr_up e3 (by simp))⟩
  have emw : ∀ v, ty_w (ty_em v t) := fun v => ⟨fun i c hc => by
    unfold ty_em at hc
    by_cases e : i = v
    · simp [e] at hc
    · simp [e] at hc; exact hw.1 i c hc, hw.2⟩
  unfold fd_45
  rw [h0, h1, h2, h3, h4]
  unfold ty_ef
  by_cases e0 : j = 0
  · rw [if_pos (show nI j = (0 : Int32) from (nj 0 (by decide)).mpr e0), if_pos e0, iff (by rw [e0]; rfl)]
    exact bc M t f' (by rw [e0]; rfl) H hw (fr_refl _ _)
  rw [if_neg (show ¬ nI j = (0 : Int32) from fun g => e0 ((nj 0 (by decide)).mp g)), if_neg e0]
  by_cases e1 : j = 1
  · have u : st_uy j = true := by rw [e1]; rfl
    obtain ⟨c, hc, c6, _, _, h6⟩ := ac1 u
    obtain ⟨y7, y6⟩ := ry u
    have hty := h6 (by omega)
    rw [if_pos (show nI j = (1 : Int32) from (nj 1 (by decide)).mpr e1), if_pos e1, iy (Or.inl u)]
    simp (disch := omega) only [pu_cl, pu_g2]
    rw [(H.1 y' (by omega)).1, hty, en_o_s, cs_38 c6, Option.bind_some]
    exact bc M t (gh_al c) (by rw [e1]; rfl) H hw (fr_refl _ _)
  rw [if_neg (show ¬ nI j = (1 : Int32) from fun g => e1 ((nj 1 (by decide)).mp g)), if_neg e1]
  by_cases e2 : j = 2
  · have u : st_uy j = true := by rw [e2]; rfl
    obtain ⟨c, hc, c6, _, _, h6⟩ := ac1 u
    obtain ⟨y7, y6⟩ := ry u
    have hty := h6 (by omega)
    rw [if_pos (show nI j = (2 : Int32) from (nj 2 (by decide)).mpr e2), if_pos e2, iy (Or.inl u)]
    obtain ⟨M1, g1, g2, g3⟩ := cs_47 H (show y' < 6 by omega)
    rw [g1, Option.bind_some, hty, en_o_s]
    exact bc M1 (ty_em y' t) c (by rw [e2]; rfl) g2 (emw y') (fr_up g3 (by simp))
  rw [if_neg (show ¬ nI j = (2 : Int32) from fun g => e2 ((nj 2 (by decide)).mp g)), if_neg e2]
  by_cases e3 : j = 3
  · have u : st_uy j = true := by rw [e3]; rfl
    have uf : st_uf j = true := by rw [e3]; rfl
    obtain ⟨c, hc, c6, h5, _, _⟩ := ac1 u
    have c5 := h5 (Or.inl e3)
    have y7 := (ry u).1
    rw [if_pos (show nI j = (3 : Int32) from (nj 3 (by decide)).mpr e3), if_pos e3, iy (Or.inl u), iff uf]
    simp (disch := omega) only [pu_cl, pu_g2]
    rw [(cl_Y_c H y7).1, hc, en_o_s, cs_48 c5 (rf uf), Option.bind_some]
    simp only []
    rw [cs_38 (gh_vw6 c5 (rf uf)), Option.bind_some]
    exact bc M t _ (by rw [e3]; rfl) H hw (fr_refl _ _)
  rw [if_neg (show ¬ nI j = (3 : Int32) from fun g => e3 ((nj 3 (by decide)).mp g)), if_neg e3]
  by_cases e4 : j = 4
  · rw [if_pos (show nI j = (4 : Int32) from (nj 4 (by decide)).mpr e4), if_neg (show ¬ j = 5 by omega), if_neg (show ¬ j = 8 by omega), if_neg (show ¬ j = 9 by omega), if_neg (show ¬ j = 10 by omega)]
    exact ⟨M, rfl, H, fr_refl _ _⟩
  rw [if_neg (show ¬ nI j = (4 : Int32) from fun g => e4 ((nj 4 (by decide)).mp g))]
  by_cases e5 : j = 5
  · have u : st_uy j = true := by rw [e5]; rfl
    have uf : st_uf j = true := by rw [e5]; rfl
    have uz : st_uz j = true := by rw [e5]; rfl
    obtain ⟨c, hc, c6, _, hc3, _⟩ := ac1 u
    have c3 := hc3 (Or.inr (Or.inl e5))
    have z6 := rz uz
    have y7 := (ry u).1
    rw [if_pos (show nI j = (5 : Int32) from (nj 5 (by decide)).mpr e5), if_pos e5, iz uz]
    obtain ⟨M1, g1, g2, g3⟩ := cs_47 H z6
    have hh4 : h ≠ 4 := by rintro rfl; exact hh (by decide)
    rw [g1, Option.bind_some]
    simp only [g3 h (show h ∉ [4] by simpa using hh4), h1, h2, h3, iy (Or.inl u), iff uf]
    simp (disch := omega) only [pu_cl, pu_g2]
    have hc' : ty_c (ty_em z' t) y' = some c := by
      unfold ty_c ty_em at *
      by_cases e6 : y' = 6
      · rw [if_pos e6] at hc ⊢; exact hc
      · rw [if_neg e6] at hc ⊢
        show (if y' = z' then none else t.1 y') = _
        rw [if_neg (a5 e5)]; exact hc
    rw [(cl_Y_c g2 y7).1, hc', en_o_s, cs_49 c3 (rf uf), Option.bind_some, hc]
    exact bc M1 (ty_em z' t) _ (by rw [e5]; rfl) g2 (emw z') (fr_up g3 (by simp))
  rw [if_neg (show ¬ nI j = (5 : Int32) from fun g => e5 ((nj 5 (by decide)).mp g)), if_neg e5]
  by_cases e6 : j = 6
  · rw [if_pos (show nI j = (6 : Int32) from (nj 6 (by decide)).mpr e6), if_neg (show ¬ j = 8 by omega), if_neg (show ¬ j = 9 by omega), if_neg (show ¬ j = 10 by omega)]
    exact ⟨M, rfl, H, fr_refl _ _⟩
  rw [if_neg (show ¬ nI j = (6 : Int32) from fun g => e6 ((nj 6 (by decide)).mp g))]
  by_cases e7 : j = 7
  · rw [if_pos (show nI j = (7 : Int32) from (nj 7 (by decide)).mpr e7), if_neg (show ¬ j = 8 by omega), if_neg (show ¬ j = 9 by omega), if_neg (show ¬ j = 10 by omega)]
    exact ⟨M, rfl, H, fr_refl _ _⟩
  rw [if_neg (show ¬ nI j = (7 : Int32) from fun g => e7 ((nj 7 (by decide)).mp g))]
  by_cases e8 : j = 8
  · have uz : st_uz j = true := by rw [e8]; rfl
    rw [if_pos (show nI j = (8 : Int32) from (nj 8 (by decide)).mpr e8), if_pos e8, iz uz]
    obtain ⟨M1, g1, g2, g3⟩ := cs_47 H (rz uz)
    exact ⟨M1, by rw [g1]; rfl, g2, fr_up g3 (by simp)⟩
  rw [if_neg (show ¬ nI j = (8 : Int32) from fun g => e8 ((nj 8 (by decide)).mp g)), if_neg e8]
  by_cases e9 : j = 9
  · rw [if_pos (show nI j = (9 : Int32) from (nj 9 (by decide)).mpr e9), if_pos e9]
    have hb := a1 e9
    obtain ⟨M', g1, g2, g3, g4⟩ := cs_50_7 hw 6 0 1000 (ds_w M 3 3 1) rfl (by decide) (fun k hk => by rw [dw_r _ _ _ (by decide)]; exact (H.1 k hk).1) (fun k hk => by omega)
    refine ⟨M', ?_, ⟨fun k hk => ⟨?_, g2 k hk, ?_⟩, ?_, ?_, g3⟩, fr_tr (fr_w (fr_refl _ _) (by decide)) (fr_up g4 (by simp))⟩
    · show (fd_50 M).bind _ = _
      rw [show fd_50 M = some M' from g1]; rfl
    · rw [g4 4 (by decide), dw_r _ _ _ (by decide)]; exact (H.1 k hk).1
    · rw [g4 6 (by decide), dw_r _ _ _ (by decide), (H.1 k hk).2.2, (hw.2 hb k).2]; rfl
    · rw [g4 3 (by decide), dw_s]; rfl
    · rw [g4 4 (by decide), dw_r _ _ _ (by decide)]; exact H.2.2.1
  rw [if_neg (show ¬ nI j = (9 : Int32) from fun g => e9 ((nj 9 (by decide)).mp g)), if_neg e9]
  have e10 : j = 10 := by omega
  have u : st_uy j = true := by rw [e10]; rfl
  have ux : st_ux j = true := by rw [e10]; rfl
  obtain ⟨c, hc, c6, _, _, h6⟩ := ac1 u
  obtain ⟨y7, y6⟩ := ry u
  have hty := h6 (by omega)
  rw [if_pos (show nI j = (10 : Int32) from (nj 10 (by decide)).mpr e10), if_pos e10, iy (Or.inl u), ix ux]
  obtain ⟨M', g1, g2, g3⟩ := cs_51 H hw (rx ux).1 (show y' < 6 by omega) hty c6
  exact ⟨M', by rw [g1]; rfl, g2, g3⟩
/-- what the locals have stays well formed -/
theorem ty_ef_w {j x y f z : Nat} (hw : ty_w t) (hrg : sm_rg bg j x y f z) (ha : st_re pr t j y f z = 0) : ty_w (ty_ef j x y f z t) := by
  obtain ⟨ac1, ac2, _, _, _⟩ := st_acc hw hrg ha
  obtain ⟨rj, rx, ry, r8, rf, rz⟩ := hrg
  have bcw : ∀ (t1 : ty_T) (c : Nat), ty_w t1 → c < 6 → ty_w (ty_bc x c t1) := by
    intro t1 c h1 h2
    refine ⟨fun i d hd => ?_, fun hb i => ?_⟩
    · unfold ty_bc at hd
      by_cases e : i = x
      · simp [e] at hd; omega
      · simp [e] at hd; exact h1.1 i d hd
    · have hb' : t1.2.2.2 = false := hb
      unfold ty_bc; simp [hb']; exact h1.2 hb' i
  have emw : ∀ v, ty_w (ty_em v t) := fun v => ⟨fun i c hc => by
    unfold ty_em at hc
    by_cases e : i = v
    · simp [e] at hc
    · simp [e] at hc; exact hw.1 i c hc, hw.2⟩
  unfold ty_ef
  by_cases e0 : j = 0
  · rw [if_pos e0]; exact bcw t f hw (rf (by rw [e0]; rfl))
  rw [if_neg e0]
  by_cases e1 : j = 1
  · rw [if_pos e1]
    obtain ⟨c, hc, c6, _, _, h6⟩ := ac1 (by rw [e1]; rfl)
    have := h6 (by have := (ry (by rw [e1]; rfl)).2; omega)
    rw [this]; exact bcw t _ hw (gh_al6 c6)
  rw [if_neg e1]
  by_cases e2 : j = 2
  · rw [if_pos e2]
    obtain ⟨c, hc, c6, _, _, h6⟩ := ac1 (by rw [e2]; rfl)
    have := h6 (by have := (ry (by rw [e2]; rfl)).2; omega)
    rw [this]; exact bcw _ _ (emw y) c6
  rw [if_neg e2]
  by_cases e3 : j = 3
  · rw [if_pos e3]
    obtain ⟨c, hc, c6, h5, _, _⟩ := ac1 (by rw [e3]; rfl)
    rw [hc]; exact bcw t _ hw (gh_al6 (gh_vw6 (h5 (Or.inl e3)) (rf (by rw [e3]; rfl))))
  rw [if_neg e3]
  by_cases e5 : j = 5
  · rw [if_pos e5]
    obtain ⟨c, hc, c6, _, h3, _⟩ := ac1 (by rw [e5]; rfl)
    rw [hc]; exact bcw _ _ (emw z) (gh_dw6 (h3 (Or.inr (Or.inl e5))) (rf (by rw [e5]; rfl)))
  rw [if_neg e5]
  by_cases e8 : j = 8
  · rw [if_pos e8]; exact emw z
  rw [if_neg e8]
  by_cases e9 : j = 9
  · rw [if_pos e9]; exact ⟨hw.1, fun h => by cases h⟩
  rw [if_neg e9]
  by_cases e10 : j = 10
  · rw [if_pos e10]
    obtain ⟨c, hc, c6, _, _, h6⟩ := ac1 (by rw [e10]; rfl)
    have hty := h6 (by have := (ry (by rw [e10]; rfl)).2; omega)
    refine ⟨fun i d hd => ?_, fun _ i => ⟨rfl, rfl⟩⟩
    unfold ty_sh at hd
    rw [hty] at hd
    by_cases e : i = x
    · simp [e] at hd
      rw [← hd]; rcases lt6 c6 with rfl | rfl | rfl | rfl | rfl | rfl <;> decide
    · simp [e] at hd; exact hw.1 i d hd.2
  · rw [if_neg e10]; exact hw
end
