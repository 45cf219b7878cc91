/-! begin, drop, end, holds -/
def cl_Z (M : am_M) (bg : Nat) (op : Bool) (pr ln : Nat → Nat) (cd : Nat → Nat → Nat → Int32) : Prop := cl_P M bg op pr ln cd ∧ (op = true → 1 ≤ bg ∧ cl_Y M (ty_at (pr (bg - 1)) (cd (bg - 1)) (ln (bg - 1))))
/-- how many are finished -/
def pg_f (bg : Nat) (op : Bool) : Nat := if op = true then bg - 1 else bg
/-- rows of the class that the program doesn't touch stay -/
def fr_p (M M' : am_M) : Prop := ∀ h, h = 0 ∨ 79 ≤ h → M' h = M h
theorem ob_id (X : Option (Int32 × am_M)) : (X.bind fun q => some (q.1, q.2)) = X := by cases X <;> rfl
theorem fr_p_refl (M : am_M) : fr_p M M := fun _ _ => rfl
theorem fr_p_tr {A B C : am_M} (h1 : fr_p A B) (h2 : fr_p B C) : fr_p A C := fun h n => (h2 h n).trans (h1 h n)
theorem fr_p_w {A B : am_M} {a k : Nat} {v : Int32} (h : fr_p A B) (ha : a ≠ 0 ∧ a < 79) : fr_p A (ds_w B a k v) := fun x n => by
  rw [dw_r _ _ _ (by omega)]; exact h x n
theorem fr_p_of {A B : am_M} {L : List Nat} (h : fr_ L A B) (hL : ∀ x, x ∈ L → x ≠ 0 ∧ x < 79) : fr_p A B := fun x n => h x (fun m => by have := hL x m; omega)
theorem st_re_pr {pr pr' : Nat → Nat} {t : ty_T} {j y f z : Nat} (h : j = 8 → pr' y = pr y) : st_re pr' t j y f z = st_re pr t j y f z := by
  unfold st_re st_tl
  by_cases e8 : j = 8
  · rw [h e8]
  · rw [if_neg e8, if_neg e8]
section
variable {M N : am_M} {bg : Nat} {op : Bool} {pr ln : Nat → Nat} {cd : Nat → Nat → Nat → Int32}
/-- Draft.restart -/
theorem cs_19_2 {p : Nat} : ∀ (k j f : Nat) (M : am_M), j + k = 6 → k < f → (∀ x, x < j → M 4 x = -1) → ∃ M', fd_19_2 f (nI p) (nI j) M = some M' ∧ cl_Y M' (ty_0 p) ∧ fr_ [3, 4, 5, 6] M M'
  | _, _, 0, _, _, hf, _ => by omega
  | 0, j, f + 1, M, hj, _, h => by
    rw [un_19_2]
    simp (disch := omega) only [pu_y6]
    rw [if_neg (by decide), if_neg (by decide)]
    obtain ⟨M', e1, e2, e3, e4, e5⟩ := cs_20 (ds_w (ds_w M 4 (0 : Int32).toNatClampNeg (nI p)) 4 (6 : Int32).toNatClampNeg 2)
    rw [e1]
    refine ⟨M', rfl, ⟨fun x hx => ⟨?_, (e2 x hx).1, (e2 x hx).2⟩, e4, ?_, e3⟩, fr_tr (fr_w (fr_w (fr_refl _ _) (by decide)) (by decide)) (fr_up e5 (by simp))⟩
    · rw [e5 4 (by decide), dw_n _ _ (by show x ≠ 6; omega)]
      unfold ty_0
      by_cases e : x = 0
      · subst e; exact dw_s _ _ _ _
      · rw [dw_n _ _ (by show x ≠ 0; exact e), h x (by omega)]; simp [e, en_o]
    · rw [e5 4 (by decide)]; exact dw_s _ _ _ _
  | k + 1, j, f + 1, M, hj, hf, h => by
    rw [un_19_2]
    simp (disch := omega) only [pu_x6, pu_cl, pu_g2]
    rw [nI_1]
    obtain ⟨M', e1, e2, e3⟩ := cs_19_2 (p := p) k (j + 1) f (ds_w M 4 j (-1)) (by omega) (by omega) (fun x hx => by
      by_cases e : x = j
      · subst e; exact dw_s _ _ _ _
      · rw [dw_n _ _ e]; exact h x (by omega))
    exact ⟨M', e1, e2, fr_tr (fr_w (fr_refl _ _) (by decide)) e3⟩
theorem op_begin (hok : pg_ok bg pr ln cd) (hM : cl_Z M bg op pr ln cd) (hN : rf_P N bg op pr ln cd) (v : Int32) : ∃ r M' N' bg' op' pr' ln', fd_12 v M = some (r, M') ∧ fd_131 v N = some (r, N') ∧ cl_Z M' bg' op' pr' ln' cd ∧ rf_P N' bg' op' pr' ln' cd ∧ pg_ok bg' pr' ln' cd ∧ fr_p M M' ∧ fr_ [96, 102, 103] N N' ∧ fs_ [6, 7] N N' ∧ pg_f bg op ≤ pg_f bg' op' ∧ ∀ b, b < pg_f bg op → pr' b = pr b := by
  obtain ⟨⟨m1, m2, m3⟩, m4⟩ := hM
  obtain ⟨n1, n2, n3⟩ := hN
  have same : ∀ r, fd_12 v M = some (r, M) → fd_131 v N = some (r, N) → ∃ r M' N' bg' op' pr' ln', fd_12 v M = some (r, M') ∧ fd_131 v N = some (r, N') ∧ cl_Z M' bg' op' pr' ln' cd ∧ rf_P N' bg' op' pr' ln' cd ∧ pg_ok bg' pr' ln' cd ∧ fr_p M M' ∧ fr_ [96, 102, 103] N N' ∧ fs_ [6, 7] N N' ∧ pg_f bg op ≤ pg_f bg' op' ∧ ∀ b, b < pg_f bg op → pr' b = pr b := fun r h1 h2 =>
    ⟨r, M, N, bg, op, pr, ln, h1, h2, ⟨⟨m1, m2, m3⟩, m4⟩, ⟨n1, n2, n3⟩, hok, fr_p_refl _, fr_refl _ _, fs_refl _ _, Nat.le_refl _, fun _ _ => rfl⟩
  have b6 := hok.1
  cases hop : op with
  | true =>
    refine hop ▸ same (-1) ?_ ?_
    · unfold fd_12 fd_13; rw [m2, pu_b_if, if_pos hop]; rfl
    · unfold fd_131; rw [n2, pu_b_if, if_pos hop]
  | false =>
    by_cases e6 : bg = 6
    · refine hop ▸ same (-1) ?_ ?_
      · unfold fd_12 fd_13; rw [m2, pu_b_if, if_neg (by simp [hop]), m1, if_pos (show (6 : Int32) ≤ nI bg by rw [e6]; decide)]; rfl
      · unfold fd_131; rw [n2, pu_b_if, if_neg (by simp [hop]), n1, if_pos (show nI bg = (6 : Int32) by rw [e6]; rfl)]
    have s1 : fd_12 v M = ((fd_14 v M).bind fun q3 => if q3.1 = (0 : Int32) then (some ((-1 : Int32), q3.2)) else (if (q3.2 1 2) < 0 ∨ 6 ≤ (q3.2 1 2).toNatClampNeg then none else (fd_18 (7 + 12 * (q3.2 1 2).toNatClampNeg) v q3.2).bind fun q8 => (fd_19 v q8).bind fun q10 => some ((((ds_w (ds_w q10 1 3 (1 : Int32)) 1 2 (((ds_w q10 1 3 (1 : Int32)) 1 2) + (1 : Int32))) 1 2) - (1 : Int32)), (ds_w (ds_w q10 1 3 (1 : Int32)) 1 2 (((ds_w q10 1 3 (1 : Int32)) 1 2) + (1 : Int32)))))) := by
      unfold fd_12 fd_13; rw [m2, pu_b_if, if_neg (by simp [hop]), m1, if_neg (show ¬ (6 : Int32) ≤ nI bg from pu_ge (n := 6) (by omega) (by decide))]
      exact ob_id _
    have s2 : fd_131 v N = ((fd_132 v N).bind fun q3 => if q3.1 = (0 : Int32) then (some ((-1 : Int32), q3.2)) else (if ((ds_w q3.2 96 7 (1 : Int32)) 96 6) < 0 ∨ 6 ≤ ((ds_w q3.2 96 7 (1 : Int32)) 96 6).toNatClampNeg then none else if ((ds_w q3.2 96 7 (1 : Int32)) 96 6) < 0 ∨ 6 ≤ ((ds_w q3.2 96 7 (1 : Int32)) 96 6).toNatClampNeg then none else some ((((ds_w (ds_w (ds_w (ds_w q3.2 96 7 (1 : Int32)) 102 ((ds_w q3.2 96 7 (1 : Int32)) 96 6).toNatClampNeg v) 103 ((ds_w q3.2 96 7 (1 : Int32)) 96 6).toNatClampNeg (0 : Int32)) 96 6 (((ds_w q3.2 96 7 (1 : Int32)) 96 6) + (1 : Int32))) 96 6) - (1 : Int32)), (ds_w (ds_w (ds_w (ds_w q3.2 96 7 (1 : Int32)) 102 ((ds_w q3.2 96 7 (1 : Int32)) 96 6).toNatClampNeg v) 103 ((ds_w q3.2 96 7 (1 : Int32)) 96 6).toNatClampNeg (0 : Int32)) 96 6 (((ds_w q3.2 96 7 (1 : Int32)) 96 6) + (1 : Int32)))))) := by
      unfold fd_131; rw [n2, pu_b_if, if_neg (by simp [hop]), n1, if_neg (show ¬ nI bg = (6 : Int32) from fun g => e6 ((pu_e6 (by omega)).mp g))]
    by_cases hr : pu_r v 6 = true
    · obtain ⟨j, hj, rfl⟩ := pu_r_of (by decide) hr
      have f14 : fd_14 (nI j) M = some (pu_b (st_sn j), M) := by
        unfold fd_14
        rw [sq_15, hr, Option.bind_some]
        simp only [pu_b_if, if_true]
        rw [cs_16 hj, Option.bind_some, pu_b_if]
        cases st_sn j <;> rfl
      rw [f14, Option.bind_some, pu_b_if] at s1
      rw [rs_132 hj, Option.bind_some, pu_b_if] at s2
      cases hs : st_sn j with
      | false =>
        rw [hs, if_neg (by simp)] at s1 s2
        exact hop ▸ same (-1) s1 s2
      | true =>
        rw [hs, if_pos rfl] at s1 s2
        simp only [m1] at s1
        have e96 : ds_w N 96 7 1 96 6 = nI bg := by rw [dw_n _ _ (by decide)]; exact n1
        simp only [e96] at s2
        simp (disch := omega) only [pu_cl, pu_g2] at s1 s2
        unfold fd_18 at s1
        rw [Option.bind_some] at s1
        obtain ⟨M1, e1, e2, e3⟩ := cs_19_2 (p := j) 6 0 1000 (ds_w (ds_w M (7 + 12 * bg) 1 (nI j)) (7 + 12 * bg) 2 0) rfl (by decide) (fun x hx => by omega)
        rw [show fd_19 (nI j) (ds_w (ds_w M (7 + 12 * bg) 1 (nI j)) (7 + 12 * bg) 2 0) = some M1 from e1, Option.bind_some] at s1
        have e12 : ds_w M1 1 3 1 1 2 = nI bg := by
          rw [dw_n _ _ (by decide), e3 1 (by decide), dw_r _ _ _ (by omega), dw_r _ _ _ (by omega)]; exact m1
        rw [e12, dw_s, nI_1, show nI (bg + 1) - (1 : Int32) = nI bg from pk_sub (a := bg + 1) (b := 1) (by omega)] at s1
        rw [dw_s, nI_1, show nI (bg + 1) - (1 : Int32) = nI bg from pk_sub (a := bg + 1) (b := 1) (by omega)] at s2
        refine ⟨nI bg, _, _, bg + 1, true, fun b => if b = bg then j else pr b, fun b => if b = bg then 0 else ln b, s1, s2, ⟨⟨dw_s _ _ _ _, ?_, fun b hb => ?_⟩, fun _ => ⟨by omega, ?_⟩⟩, ⟨dw_s _ _ _ _, ?_, fun b hb => ?_⟩, ⟨by omega, fun b hb => ?_⟩, ?_, ?_, ?_, ?_, ?_⟩
        · rw [dw_n _ _ (by decide), dw_s]; rfl
        · have rr : ∀ h, h ≠ 1 → h ∉ [3, 4, 5, 6] → ds_w (ds_w M1 1 3 1) 1 2 (nI (bg + 1)) h = ds_w (ds_w M (7 + 12 * bg) 1 (nI j)) (7 + 12 * bg) 2 0 h := by
            intro h h1 h2; rw [dw_r _ _ _ h1, dw_r _ _ _ h1, e3 h h2]
          by_cases eb : b = bg
          · subst eb
            rw [rr _ (by omega) (by simp; omega)]
            simp only [reduceIte]
            refine ⟨by rw [dw_n _ _ (by decide), dw_s], by rw [dw_s]; rfl, fun k i hk => ?_⟩
            exact absurd hk (by simp)
          · have hb' : b < bg := by omega
            simp only [if_neg eb]
            obtain ⟨p1, p2, p3⟩ := m3 b hb'
            have hl10 := (hok.2 b hb').2.2.1
            refine ⟨?_, ?_, fun k i hk hi => ?_⟩
            · rw [rr _ (by omega) (by simp; omega), dw_r _ _ _ (by omega), dw_r _ _ _ (by omega)]; exact p1
            · rw [rr _ (by omega) (by simp; omega), dw_r _ _ _ (by omega), dw_r _ _ _ (by omega)]; exact p2
            · rw [rr _ (by omega) (by simp; omega), dw_r _ _ _ (by omega), dw_r _ _ _ (by omega)]; exact p3 k i hk hi
        · show cl_Y _ (ty_at (if bg + 1 - 1 = bg then j else pr (bg + 1 - 1)) (cd (bg + 1 - 1)) (if bg + 1 - 1 = bg then 0 else ln (bg + 1 - 1)))
          rw [if_pos (by omega), if_pos (by omega)]
          obtain ⟨y1, y2, y3, y4⟩ := e2
          refine ⟨fun x hx => ?_, ?_, ?_, ?_⟩
          · rw [dw_r _ _ _ (by decide), dw_r _ _ _ (by decide), dw_r _ _ _ (by decide), dw_r _ _ _ (by decide), dw_r _ _ _ (by decide), dw_r _ _ _ (by decide)]; exact y1 x hx
          · rw [dw_r _ _ _ (by decide), dw_r _ _ _ (by decide)]; exact y2
          · rw [dw_r _ _ _ (by decide), dw_r _ _ _ (by decide)]; exact y3
          · rw [dw_r _ _ _ (by decide), dw_r _ _ _ (by decide)]; exact y4
        · rw [dw_n _ _ (by decide), dw_r _ _ _ (by decide), dw_r _ _ _ (by decide), dw_s]; rfl
        · by_cases eb : b = bg
          · subst eb
            simp only [reduceIte]
            refine ⟨?_, ?_, fun k i hk => absurd hk (by simp)⟩
            · rw [dw_r _ _ _ (by decide), dw_r _ _ _ (by decide), dw_s]
            · rw [dw_r _ _ _ (by decide), dw_s]; rfl
          · simp only [if_neg eb]
            have := n3 b (by omega)
            simp only [dw_x]; simp [eb]; exact this
        · by_cases eb : b = bg
          · subst eb
            simp only [reduceIte]
            exact ⟨hs, hj, by omega, fun k hk => by omega⟩
          · obtain ⟨g1, g2, g3, g4⟩ := hok.2 b (by omega)
            simp only [if_neg eb]
            refine ⟨g1, g2, g3, fun k hk => ?_⟩
            obtain ⟨h1, h2, h3⟩ := g4 k hk
            refine ⟨h1, h2, ?_⟩
            rw [st_re_pr (pr := pr) (fun e8 => if_neg (show ¬ pg_d (cd b k 2) = bg by have := h2.2.2.2.1 e8; omega))]; exact h3
        · exact fr_p_w (fr_p_w (fr_p_tr (fr_p_w (fr_p_w (fr_p_refl _) (by omega)) (by omega)) (fr_p_of e3 (by simp))) (by decide)) (by decide)
        · exact fr_w (fr_w (fr_w (fr_w (fr_refl _ _) (by decide)) (by decide)) (by decide)) (by decide)
        · exact fs_w (fs_w (fs_w (fs_w (fs_refl _ _) (by simp)) (by simp)) (by simp)) (by simp)
        · unfold pg_f; simp [hop]
        · intro b hb
          unfold pg_f at hb; simp [hop] at hb
          simp only [if_neg (show ¬ b = bg by omega)]
    · have h0 : pu_r v 6 = false := by simpa using hr
      have ne : ∀ k, k < 6 → v ≠ nI k := by
        rintro k hk rfl; rw [pu_r_nI (by decide) hk] at h0; cases h0
      refine hop ▸ same (-1) ?_ ?_
      · rw [s1]; unfold fd_14; rw [sq_15, h0, Option.bind_some]; rfl
      · rw [s2]; unfold fd_132
        rw [if_neg (show ¬ v = (0 : Int32) from ne 0 (by decide)), if_neg (show ¬ v = (3 : Int32) from ne 3 (by decide)), if_neg (show ¬ v = (5 : Int32) from ne 5 (by decide))]; rfl
end
