/-! The program: bg behaviours begun, the last open (op) or not; parameters pr, lengths ln, statements cd -/
def pg_d (v : Int32) : Nat := v.toNatClampNeg
theorem pg_d_nI {j : Nat} (h : j < 1000) : pg_d (nI j) = j := pu_cl h
def ty_0 (p : Nat) : ty_T := (fun k => if k = 0 then some p else none, fun _ => false, fun _ => false, false)
def ty_s (c : Nat → Int32) (t : ty_T) : ty_T := ty_ef (pg_d (c 0)) (pg_d (c 1)) (pg_d (c 2)) (pg_d (c 3)) (pg_d (c 4)) t
def ty_at (p : Nat) (cd : Nat → Nat → Int32) : Nat → ty_T
  | 0 => ty_0 p
  | k + 1 => ty_s (cd k) (ty_at p cd k)
/-- a statement that is accepted -/
def pg_st (bg : Nat) (pr : Nat → Nat) (t : ty_T) (c : Nat → Int32) : Prop := sm_is (c 0) (c 1) (c 2) (c 3) (c 4) (pg_d (c 0)) (pg_d (c 1)) (pg_d (c 2)) (pg_d (c 3)) (pg_d (c 4)) ∧ sm_rg bg (pg_d (c 0)) (pg_d (c 1)) (pg_d (c 2)) (pg_d (c 3)) (pg_d (c 4)) ∧ st_re pr t (pg_d (c 0)) (pg_d (c 2)) (pg_d (c 3)) (pg_d (c 4)) = 0
def pg_ok (bg : Nat) (pr ln : Nat → Nat) (cd : Nat → Nat → Nat → Int32) : Prop := bg ≤ 6 ∧ ∀ b, b < bg → st_sn (pr b) = true ∧ pr b < 6 ∧ ln b ≤ 10 ∧ ∀ k, k < ln b → pg_st (b + 1) pr (ty_at (pr b) (cd b) k) (cd b k)
def rf_P (N : am_M) (bg : Nat) (op : Bool) (pr ln : Nat → Nat) (cd : Nat → Nat → Nat → Int32) : Prop := N 96 6 = nI bg ∧ N 96 7 = pu_b op ∧ ∀ b, b < bg → N 102 b = nI (pr b) ∧ N 103 b = nI (ln b) ∧ ∀ k i, k < ln b → i < 5 → N 104 (50 * b + 5 * k + i) = cd b k i
def cl_P (M : am_M) (bg : Nat) (op : Bool) (pr ln : Nat → Nat) (cd : Nat → Nat → Nat → Int32) : Prop := M 1 2 = nI bg ∧ M 1 3 = pu_b op ∧ ∀ b, b < bg → M (7 + 12 * b) 1 = nI (pr b) ∧ M (7 + 12 * b) 2 = nI (ln b) ∧ ∀ k i, k < ln b → i < 5 → M (9 + 12 * b + k) i = cd b k i
theorem ty_0_w {p : Nat} (h : p < 6) : ty_w (ty_0 p) := ⟨fun x c hc => by
  unfold ty_0 at hc
  by_cases e : x = 0
  · simp [e] at hc; omega
  · simp [e] at hc, fun _ _ => ⟨rfl, rfl⟩⟩
theorem ty_at_w {p bg n : Nat} {pr : Nat → Nat} {cd : Nat → Nat → Int32} (hp : p < 6) (h : ∀ k, k < n → pg_st bg pr (ty_at p cd k) (cd k)) : ∀ k, k ≤ n → ty_w (ty_at p cd k)
  | 0, _ => ty_0_w hp
  | k + 1, hk => ty_ef_w (ty_at_w hp h k (by omega)) (h k (by omega)).2.1 (h k (by omega)).2.2
theorem sm_dn {bg : Nat} {op x y f z : Int32} {j x' y' f' z' : Nat} (hb : bg < 1000) (h : sm_is op x y f z j x' y' f' z') (hr : sm_rg bg j x' y' f' z') : sm_is op x y f z (pg_d op) (pg_d x) (pg_d y) (pg_d f) (pg_d z) ∧ sm_rg bg (pg_d op) (pg_d x) (pg_d y) (pg_d f) (pg_d z) ∧ pg_d op = j ∧ (st_ux j = true → pg_d x = x') ∧ (st_uy j = true ∨ j = 8 → pg_d y = y') ∧ (st_uf j = true → pg_d f = f') ∧ (st_uz j = true → pg_d z = z') := by
  obtain ⟨i0, ix, iy, iff, iz⟩ := h
  obtain ⟨rj, rx, ry, r8, rf, rz⟩ := hr
  have e0 : pg_d op = j := by rw [i0]; exact pg_d_nI (by omega)
  have ex : st_ux j = true → pg_d x = x' := fun u => by rw [ix u]; exact pg_d_nI (by have := (rx u).1; omega)
  have ey : st_uy j = true ∨ j = 8 → pg_d y = y' := fun u => by
    rw [iy u]; refine pg_d_nI ?_
    rcases u with u | u
    · have := (ry u).1; omega
    · have := r8 u; omega
  have ef : st_uf j = true → pg_d f = f' := fun u => by rw [iff u]; exact pg_d_nI (by have := rf u; omega)
  have ez : st_uz j = true → pg_d z = z' := fun u => by rw [iz u]; exact pg_d_nI (by have := rz u; omega)
  refine ⟨⟨by rw [e0]; exact i0, ?_, ?_, ?_, ?_⟩, ⟨by rw [e0]; exact rj, ?_, ?_, ?_, ?_, ?_⟩, e0, ex, ey, ef, ez⟩
  · rw [e0]; intro u; rw [ex u]; exact ix u
  · rw [e0]; intro u; rw [ey u]; exact iy u
  · rw [e0]; intro u; rw [ef u]; exact iff u
  · rw [e0]; intro u; rw [ez u]; exact iz u
  · rw [e0]; intro u; rw [ex u]; exact rx u
  · rw [e0]; intro u; rw [ey (Or.inl u)]; exact ry u
  · rw [e0]; intro u; rw [ey (Or.inr u)]; exact r8 u
  · rw [e0]; intro u; rw [ef u]; exact rf u
  · rw [e0]; intro u; rw [ez u]; exact rz u
section
variable {M N : am_M} {bg : Nat} {op : Bool} {pr ln : Nat → Nat} {cd : Nat → Nat → Nat → Int32}
/-- replay -/
theorem rs_135_61 {b : Nat} (hok : pg_ok bg pr ln cd) (hb : b < bg) : ∀ (k i f : Nat) (N : am_M), i + k = ln b → k < f → rf_P N bg op pr ln cd → rf_Y N (ty_at (pr b) (cd b) i) → ∃ N', fd_135_61 f (nI b) (nI i) N = some N' ∧ rf_Y N' (ty_at (pr b) (cd b) (ln b)) ∧ fr_ [96, 105, 106, 107] N N' ∧ fs_ [14] N N'
  | _, _, 0, _, _, hf, _, _ => by omega
  | 0, i, f + 1, N, hi, _, hP, hY => by
    have b6 := hok.1
    obtain ⟨_, p6, l10, _⟩ := hok.2 b hb
    refine ⟨N, ?_, by rw [show ln b = i by omega]; exact hY, fr_refl _ _, fs_refl _ _⟩
    rw [un_135_61]
    simp (disch := omega) only [pu_cl, pu_g2]
    rw [(hP.2.2 b hb).2.1, pu_end (by omega) (by omega)]
  | k + 1, i, f + 1, N, hi, hf, hP, hY => by
    have b6 := hok.1
    obtain ⟨_, p6, l10, hst⟩ := hok.2 b hb
    obtain ⟨s1, s2, s3⟩ := hst i (by omega)
    have tw := ty_at_w p6 (fun k hk => hst k hk) i (by omega)
    have cdr := (hP.2.2 b hb).2.2 i
    rw [un_135_61]
    simp (disch := omega) only [pu_cl, pu_g2]
    rw [(hP.2.2 b hb).2.1, pu_go (by omega) (by omega), show ((50 : Int32) * nI b) = nI (50 * b) from pk_mul 50 b, show ((5 : Int32) * nI i) = nI (5 * i) from pk_mul 5 i, nI_add, nI_1]
    obtain ⟨N1, e1, e2, e3, e4⟩ := rs_136 hY tw (show 50 * b + 5 * i + 4 < 300 by omega) (cdr 0 (by omega) (by decide)) (cdr 1 (by omega) (by decide)) (cdr 2 (by omega) (by decide)) (cdr 3 (by omega) (by decide)) (cdr 4 (by omega) (by decide)) s1 s2 s3
    rw [e1, Option.bind_some]
    have hP1 : rf_P N1 bg op pr ln cd := by
      refine ⟨by rw [e4 6 (by decide)]; exact hP.1, by rw [e4 7 (by decide)]; exact hP.2.1, fun b' hb' => ?_⟩
      rw [e3 102 (by decide), e3 103 (by decide), e3 104 (by decide)]; exact hP.2.2 b' hb'
    obtain ⟨N2, f1, f2, f3, f4⟩ := rs_135_61 hok hb k (i + 1) f N1 (by omega) (by omega) hP1 e2
    exact ⟨N2, f1, f2, fr_tr e3 f3, fs_tr e4 f4⟩
theorem rs_135_2 {b : Nat} (hok : pg_ok bg pr ln cd) (hb : b + 1 = bg) : ∀ (k i f : Nat) (N : am_M), i + k = 6 → k < f → rf_P N bg op pr ln cd → (∀ x, x < i → N 105 x = -1 ∧ N 106 x = 0 ∧ N 107 x = 0) → ∃ N', fd_135_2 f (nI i) N = some N' ∧ rf_Y N' (ty_at (pr b) (cd b) (ln b)) ∧ fr_ [96, 105, 106, 107] N N' ∧ fs_ [14] N N'
  | _, _, 0, _, _, hf, _, _ => by omega
  | 0, i, f + 1, N, hi, _, hP, h => by
    have b6 := hok.1
    obtain ⟨_, p6, l10, _⟩ := hok.2 b (by omega)
    have e96 : ds_w N 96 14 0 96 6 = nI bg := by rw [dw_n _ _ (by decide)]; exact hP.1
    have em1 : nI bg - (1 : Int32) = nI b := by rw [← hb]; exact pk_sub (a := b + 1) (b := 1) (by omega)
    rw [un_135_2]
    simp (disch := omega) only [pu_y6]
    rw [e96, em1]
    simp (disch := omega) only [pu_cl, pu_g2]
    rw [if_neg (by decide), (hP.2.2 b (by omega)).1]
    obtain ⟨N', e1, e2, e3, e4⟩ := rs_135_61 hok (show b < bg by omega) (ln b) 0 1000 (ds_w (ds_w N 96 14 0) 105 (0 : Int32).toNatClampNeg (nI (pr b))) (by omega) (by omega) (by
      refine ⟨by rw [dw_r _ _ _ (by decide), dw_n _ _ (by decide)]; exact hP.1, by rw [dw_r _ _ _ (by decide), dw_n _ _ (by decide)]; exact hP.2.1, fun b' hb' => ?_⟩
      rw [dw_r _ _ _ (by decide), dw_r _ _ _ (by decide), dw_r _ _ _ (by decide), dw_r _ _ _ (by decide), dw_r _ _ _ (by decide), dw_r _ _ _ (by decide)]; exact hP.2.2 b' hb') (by
      refine ⟨fun x hx => ?_, ?_⟩
      · obtain ⟨g1, g2, g3⟩ := h x (by omega)
        have z : (0 : Int32).toNatClampNeg = 0 := rfl
        show _ = en_o ((ty_0 (pr b)).1 x) ∧ _ ∧ _
        unfold ty_0
        by_cases e : x = 0
        · subst e; simp [dw_x, z, en_o_s, g2, g3, pu_b]; exact ⟨rfl, rfl⟩
        · simp [dw_x, z, e, g1, g2, g3, pu_b, en_o]; exact ⟨rfl, rfl⟩
      · rw [dw_r _ _ _ (by decide), dw_s]; rfl)
    exact ⟨N', e1, e2, fr_tr (fr_w (fr_w (fr_refl _ _) (by decide)) (by decide)) e3, fs_tr (fs_w (fs_w (fs_refl _ _) (by simp)) (by simp)) e4⟩
  | k + 1, i, f + 1, N, hi, hf, hP, h => by
    rw [un_135_2]
    simp (disch := omega) only [pu_x6, pu_cl, pu_g2]
    rw [nI_1, show ((0 : Int32) &&& 1) = 0 from by decide]
    obtain ⟨N', e1, e2, e3, e4⟩ := rs_135_2 hok hb k (i + 1) f (ds_w (ds_w (ds_w N 105 i (-1)) 106 i 0) 107 i 0) (by omega) (by omega) (by
      refine ⟨by rw [dw_r _ _ _ (by decide), dw_r _ _ _ (by decide), dw_r _ _ _ (by decide)]; exact hP.1, by rw [dw_r _ _ _ (by decide), dw_r _ _ _ (by decide), dw_r _ _ _ (by decide)]; exact hP.2.1, fun b' hb' => ?_⟩
      have := hP.2.2 b' hb'
      simp only [dw_x]
      simp; exact this) (fun x hx => by
      by_cases e : x = i
      · subst e; simp [dw_x]
      · simp [dw_x, e]; exact h x (by omega))
    exact ⟨N', e1, e2, fr_tr (fr_w (fr_w (fr_w (fr_refl _ _) (by decide)) (by decide)) (by decide)) e3, fs_tr (fs_w (fs_w (fs_w (fs_refl _ _) (by simp)) (by simp)) (by simp)) e4⟩
theorem rs_135 {b : Nat} (hok : pg_ok bg pr ln cd) (hb : b + 1 = bg) (hP : rf_P N bg op pr ln cd) : ∃ N', fd_135 N = some N' ∧ rf_Y N' (ty_at (pr b) (cd b) (ln b)) ∧ fr_ [96, 105, 106, 107] N N' ∧ fs_ [14] N N' := rs_135_2 hok hb 6 0 1000 N rfl (by decide) hP (fun x hx => by omega)
end
