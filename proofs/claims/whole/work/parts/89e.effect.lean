/-! What an accepted statement does to the locals -/
def ty_bc (x c : Nat) (t : ty_T) : ty_T := (fun k => if k = x then some c else t.1 k, fun k => if k = x ∧ t.2.2.2 = true then false else t.2.1 k, fun k => if k = x ∧ t.2.2.2 = true then true else t.2.2.1 k, t.2.2.2)
def ty_em (z : Nat) (t : ty_T) : ty_T := (fun k => if k = z then none else t.1 k, t.2)
def ty_op (t : ty_T) : ty_T := (t.1, fun k => decide (t.1 k ≠ none) && !(st_sn ((t.1 k).getD 0)), fun _ => false, true)
def ty_sh (x y : Nat) (t : ty_T) : ty_T := (fun k => if k = x then some (gh_ou ((t.1 y).getD 0)) else if k = y ∨ t.2.2.1 k = true then none else t.1 k, fun _ => false, fun _ => false, false)
def ty_ef (j x y f z : Nat) (t : ty_T) : ty_T :=
  if j = 0 then ty_bc x f t
  else if j = 1 then ty_bc x (gh_al ((t.1 y).getD 0)) t
  else if j = 2 then ty_bc x ((t.1 y).getD 0) (ty_em y t)
  else if j = 3 then ty_bc x (gh_al (gh_vw ((ty_c t y).getD 0) f)) t
  else if j = 5 then ty_bc x (gh_dw ((ty_c t y).getD 0) f) (ty_em z t)
  else if j = 8 then ty_em z t
  else if j = 9 then ty_op t
  else if j = 10 then ty_sh x y t
  else t
/-- what is known of an accepted statement -/
theorem st_re_0 {pr : Nat → Nat} {t : ty_T} {j y f z : Nat} (h : st_re pr t j y f z = 0) : (j = 9 → t.2.2.2 = false) ∧ (j = 10 → t.2.2.2 = true) ∧ (st_uy j = true → ty_h t y = false ∧ ∃ c, ty_c t y = some c) ∧ (st_uz j = true → ty_h t z = false ∧ ∃ c, ty_c t z = some c) ∧ (j = 5 → y ≠ z) ∧ st_tl pr j ((ty_c t y).getD 0) ((ty_c t z).getD 0) y f = 0 := by
  unfold st_re st_fr at h
  by_cases c1 : j = 9 ∧ t.2.2.2 = true
  · rw [if_pos c1] at h; cases h
  rw [if_neg c1] at h
  by_cases c2 : j = 10 ∧ t.2.2.2 = false
  · rw [if_pos c2] at h; cases h
  rw [if_neg c2] at h
  by_cases c3 : st_uy j = true ∧ ty_h t y = true
  · rw [if_pos c3] at h; cases h
  rw [if_neg c3] at h
  by_cases c4 : st_uz j = true ∧ ty_h t z = true
  · rw [if_pos c4] at h; cases h
  rw [if_neg c4] at h
  by_cases c5 : st_uy j = true ∧ ty_c t y = none
  · rw [if_pos c5] at h; cases h
  rw [if_neg c5] at h
  by_cases c6 : st_uz j = true ∧ ty_c t z = none
  · rw [if_pos c6] at h; cases h
  rw [if_neg c6] at h
  by_cases c7 : j = 5 ∧ y = z
  · rw [if_pos c7] at h; cases h
  rw [if_neg c7] at h
  refine ⟨fun e => ?_, fun e => ?_, fun u => ⟨?_, ?_⟩, fun u => ⟨?_, ?_⟩, fun e g => c7 ⟨e, g⟩, h⟩
  · cases hb : t.2.2.2 with
    | false => rfl
    | true => exact absurd ⟨e, hb⟩ c1
  · cases hb : t.2.2.2 with
    | true => rfl
    | false => exact absurd ⟨e, hb⟩ c2
  · cases hb : ty_h t y with
    | false => rfl
    | true => exact absurd ⟨u, hb⟩ c3
  · cases hb : ty_c t y with
    | some c => exact ⟨c, rfl⟩
    | none => exact absurd ⟨u, hb⟩ c5
  · cases hb : ty_h t z with
    | false => rfl
    | true => exact absurd ⟨u, hb⟩ c4
  · cases hb : ty_c t z with
    | some c => exact ⟨c, rfl⟩
    | none => exact absurd ⟨u, hb⟩ c6
section
variable {M N : am_M} {t : ty_T} {pr : Nat → Nat} {bg : Nat}
theorem rf_Y_f {N' : am_M} (H : rf_Y N t) (h1 : N' 105 = N 105) (h2 : N' 106 = N 106) (h3 : N' 107 = N 107) (h4 : N' 96 14 = N 96 14) : rf_Y N' t := by unfold rf_Y; rw [h1, h2, h3, h4]; exact H
/-- become -/
theorem rs_137 {x c : Nat} (H : rf_Y N t) (hx : x < 6) : ∃ N', fd_137 (nI x) (nI c) N = some N' ∧ rf_Y N' (ty_bc x c t) ∧ fr_ [105, 106, 107] N N' := by
  unfold fd_137
  simp (disch := omega) only [pu_cl, pu_g2]
  rw [H.2, pu_b_if, show ((1 : Int32) &&& 1) = 1 from by decide, show ((0 : Int32) &&& 1) = 0 from by decide]
  unfold ty_bc
  cases hb : t.2.2.2 with
  | false =>
    rw [if_neg (by simp)]
    refine ⟨_, rfl, ⟨fun k hk => ?_, ?_⟩, fr_w (fr_refl _ _) (by decide)⟩
    · have := H.1 k hk
      by_cases e : k = x
      · subst e; simp [dw_x, en_o_s, this]
      · simp [dw_x, e, this]
    · rw [dw_r _ _ _ (by decide), H.2, hb]
  | true =>
    rw [if_pos rfl]
    refine ⟨_, rfl, ⟨fun k hk => ?_, ?_⟩, fr_w (fr_w (fr_w (fr_refl _ _) (by decide)) (by decide)) (by decide)⟩
    · have := H.1 k hk
      by_cases e : k = x
      · subst e; simp [dw_x, en_o_s, pu_b]
      · simp [dw_x, e, this]
    · rw [dw_r _ _ _ (by decide), dw_r _ _ _ (by decide), dw_r _ _ _ (by decide), H.2, hb]
theorem rf_Y_em {z : Nat} (H : rf_Y N t) (hz : z < 6) : rf_Y (ds_w N 105 z (-1)) (ty_em z t) := by
  refine ⟨fun k hk => ?_, ?_⟩
  · have := H.1 k hk
    unfold ty_em
    by_cases e : k = z
    · subst e; simp [dw_x, this]; rfl
    · simp [dw_x, e, this]
  · rw [dw_r _ _ _ (by decide)]; exact H.2
/-- OPEN -/
theorem rs_136_213 (hw : ty_w t) : ∀ (k j f : Nat) (N : am_M), j + k = 6 → k < f → (∀ x, x < 6 → N 105 x = en_o (t.1 x)) → (∀ x, x < j → N 106 x = pu_b ((ty_op t).2.1 x) ∧ N 107 x = 0) → ∃ N', fd_136_213 f (nI j) N = some N' ∧ (∀ x, x < 6 → N' 106 x = pu_b ((ty_op t).2.1 x) ∧ N' 107 x = 0) ∧ fr_ [106, 107] N N'
  | _, _, 0, _, _, hf, _, _ => by omega
  | 0, j, f + 1, N, hj, _, h5, h67 => by
    refine ⟨N, ?_, fun x hx => h67 x (by omega), fr_refl _ _⟩
    rw [un_136_213]
    simp (disch := omega) only [pu_y6]
  | k + 1, j, f + 1, N, hj, hf, h5, h67 => by
    rw [un_136_213]
    simp (disch := omega) only [pu_x6, pu_cl, pu_g2]
    have step : ∀ b : Bool, b = (ty_op t).2.1 j → ∃ N', fd_136_255 (fd_136_213 f) (nI j) (nI j) (pu_b b) N = some N' ∧ (∀ x, x < 6 → N' 106 x = pu_b ((ty_op t).2.1 x) ∧ N' 107 x = 0) ∧ fr_ [106, 107] N N' := by
      intro b hb
      unfold fd_136_255
      simp (disch := omega) only [pu_cl, pu_g2]
      rw [nI_1, show (pu_b b &&& 1) = pu_b b from by cases b <;> decide, show ((0 : Int32) &&& 1) = 0 from by decide]
      obtain ⟨N', e1, e2, e3⟩ := rs_136_213 hw k (j + 1) f (ds_w (ds_w N 106 j (pu_b b)) 107 j 0) (by omega) (by omega) (fun x hx => by rw [dw_r _ _ _ (by decide), dw_r _ _ _ (by decide)]; exact h5 x hx) (fun x hx => by
        by_cases e : x = j
        · subst e; simp [dw_x, hb]
        · simp [dw_x, e]; exact h67 x (by omega))
      exact ⟨N', e1, e2, fr_tr (fr_w (fr_w (fr_refl _ _) (by decide)) (by decide)) e3⟩
    rw [h5 j (by omega)]
    cases hc : t.1 j with
    | none =>
      rw [if_pos (show en_o none = -1 from rfl)]
      exact step false (by unfold ty_op; simp [hc])
    | some c =>
      have c6 := hw.1 j c hc
      rw [if_neg (show ¬ en_o (some c) = -1 from en_nI_m1 (by omega)), en_o_s, rs_132 c6, Option.bind_some, pu_b_if]
      have e0 : (ty_op t).2.1 j = !(st_sn c) := by unfold ty_op; simp [hc]
      cases hs : st_sn c with
      | true => rw [if_pos rfl]; exact step false (by rw [e0, hs]; rfl)
      | false => rw [if_neg (by simp)]; exact step true (by rw [e0, hs]; rfl)
/-- SHUT -/
theorem rs_143_17 {x c : Nat} (hx : x < 6) (hc : c < 6) {T : Nat → Option Nat} {B : Nat → Bool} : ∀ (k j f : Nat) (N : am_M), j + k = 6 → k < f → (∀ i, i < 6 → N 107 i = if j ≤ i then pu_b (B i) else 0) → (∀ i, i < 6 → N 106 i = 0 ∨ j ≤ i) → (∀ i, i < 6 → N 105 i = if i < j ∧ B i = true then -1 else en_o (T i)) → ∃ N', fd_143_17 f (nI x) (nI c) (nI j) N = some N' ∧ (∀ i, i < 6 → N' 105 i = (if i = x then nI (gh_ou c) else if B i = true then -1 else en_o (T i)) ∧ N' 106 i = 0 ∧ N' 107 i = 0) ∧ N' 96 14 = 0 ∧ fr_ [96, 105, 106, 107] N N' ∧ fs_ [14] N N'
  | _, _, 0, _, _, hf, _, _, _ => by omega
  | 0, j, f + 1, N, hj, _, h7, h6, h5 => by
    rw [un_143_17]
    simp (disch := omega) only [pu_y6]
    rw [rs_144 hc, Option.bind_some, pu_b_if]
    have e5 : nI c = (5 : Int32) ↔ c = 5 := en_nI (t := 5) (by omega) (by decide)
    have fin : ∀ v : Int32, v = nI (gh_ou c) → ∃ N', fd_143_95 (nI x) v (ds_w N 96 14 0) = some N' ∧ (∀ i, i < 6 → N' 105 i = (if i = x then nI (gh_ou c) else if B i = true then -1 else en_o (T i)) ∧ N' 106 i = 0 ∧ N' 107 i = 0) ∧ N' 96 14 = 0 ∧ fr_ [96, 105, 106, 107] N N' ∧ fs_ [14] N N' := by
      intro v hv
      unfold fd_143_95
      simp (disch := omega) only [pu_cl, pu_g2]
      refine ⟨_, rfl, fun i hi => ⟨?_, ?_, ?_⟩, ?_, fr_w (fr_w (fr_refl _ _) (by decide)) (by decide), fs_w (fs_w (fs_refl _ _) (by simp)) (by simp)⟩
      · by_cases e : i = x
        · subst e; rw [dw_s, if_pos rfl, hv]
        · rw [dw_n _ _ e, dw_r _ _ _ (by decide), if_neg e, h5 i hi]
          by_cases hb : B i = true
          · rw [if_pos ⟨by omega, hb⟩, if_pos hb]
          · rw [if_neg (fun g => hb g.2), if_neg hb]
      · rw [dw_r _ _ _ (by decide), dw_r _ _ _ (by decide)]
        rcases h6 i hi with h | h
        · exact h
        · omega
      · rw [dw_r _ _ _ (by decide), dw_r _ _ _ (by decide), h7 i hi, if_neg (by omega)]
      · rw [dw_r _ _ _ (by decide), dw_s]
    by_cases c3 : c < 3
    · rw [if_pos (decide_eq_true c3)]
      exact fin 0 (by unfold gh_ou; rw [if_pos c3]; rfl)
    · rw [if_neg (by simpa using c3)]
      by_cases c5 : c = 5
      · rw [if_pos (e5.mpr c5)]; exact fin 5 (by unfold gh_ou; rw [if_neg c3, if_pos c5]; rfl)
      · rw [if_neg (fun g => c5 (e5.mp g))]; exact fin 3 (by unfold gh_ou; rw [if_neg c3, if_neg c5]; rfl)
  | k + 1, j, f + 1, N, hj, hf, h7, h6, h5 => by
    rw [un_143_17]
    simp (disch := omega) only [pu_x6, pu_cl, pu_g2]
    unfold fd_143_42
    simp (disch := omega) only [pu_cl, pu_g2]
    rw [nI_1, h7 j (by omega), if_pos (Nat.le_refl _), pu_b_if, show ((0 : Int32) &&& 1) = 0 from by decide]
    have step : ∀ N1 : am_M, (∀ i, i < 6 → N1 105 i = if i < j + 1 ∧ B i = true then -1 else en_o (T i)) → fr_ [105] N N1 → ∃ N', fd_143_17 f (nI x) (nI c) (nI (j + 1)) (ds_w (ds_w N1 107 j 0) 106 j 0) = some N' ∧ (∀ i, i < 6 → N' 105 i = (if i = x then nI (gh_ou c) else if B i = true then -1 else en_o (T i)) ∧ N' 106 i = 0 ∧ N' 107 i = 0) ∧ N' 96 14 = 0 ∧ fr_ [96, 105, 106, 107] N N' ∧ fs_ [14] N N' := by
      intro N1 g1 g2
      obtain ⟨N', e1, e2, e3, e4, e5⟩ := rs_143_17 hx hc k (j + 1) f (ds_w (ds_w N1 107 j 0) 106 j 0) (by omega) (by omega) (fun i hi => by
        rw [dw_r _ _ _ (by decide)]
        by_cases e : i = j
        · subst e; rw [dw_s, if_neg (by omega)]
        · rw [dw_n _ _ e, g2 107 (by decide), h7 i hi]
          by_cases c : j ≤ i
          · rw [if_pos c, if_pos (by omega)]
          · rw [if_neg c, if_neg (by omega)]) (fun i hi => by
        by_cases e : i = j
        · subst e; rw [dw_s]; exact Or.inl rfl
        · rw [dw_n _ _ e, dw_r _ _ _ (by decide), g2 106 (by decide)]
          rcases h6 i hi with h | h
          · exact Or.inl h
          · exact Or.inr (by omega)) (fun i hi => by rw [dw_r _ _ _ (by decide), dw_r _ _ _ (by decide)]; exact g1 i hi)
      exact ⟨N', e1, e2, e3, fr_tr (fr_w (fr_w (fr_up g2 (by simp)) (by decide)) (by decide)) e4, fs_tr (fs_w (fs_w (fs_of g2 (by decide)) (by simp)) (by simp)) e5⟩
    by_cases hb : B j = true
    · rw [if_pos hb]
      refine step (ds_w N 105 j (-1)) (fun i hi => ?_) (fr_w (fr_refl _ _) (by decide))
      by_cases e : i = j
      · subst e; rw [dw_s, if_pos ⟨by omega, hb⟩]
      · rw [dw_n _ _ e, h5 i hi]
        by_cases c : i < j ∧ B i = true
        · rw [if_pos c, if_pos ⟨by omega, c.2⟩]
        · rw [if_neg c, if_neg (fun g => c ⟨by omega, g.2⟩)]
    · rw [if_neg hb]
      refine step N (fun i hi => ?_) (fr_refl _ _)
      rw [h5 i hi]
      by_cases c : i < j ∧ B i = true
      · rw [if_pos c, if_pos ⟨by omega, c.2⟩]
      · rw [if_neg c, if_neg]
        rintro ⟨g1, g2⟩
        by_cases e : i = j
        · subst e; exact hb g2
        · exact c ⟨by omega, g2⟩
theorem rs_143 {x y c : Nat} (H : rf_Y N t) (hx : x < 6) (hy : y < 6) (hc : t.1 y = some c) (hc6 : c < 6) : ∃ N', fd_143 (nI x) (nI y) N = some N' ∧ rf_Y N' (ty_sh x y t) ∧ fr_ [96, 105, 106, 107] N N' ∧ fs_ [14] N N' := by
  unfold fd_143
  simp (disch := omega) only [pu_cl, pu_g2]
  rw [(H.1 y hy).1, hc, en_o_s]
  have h106 : ∀ i, i < 6 → (N 106 i = 0 ∨ 0 ≤ i) := fun i _ => Or.inr (Nat.zero_le _)
  obtain ⟨N', e1, e2, e3, e4, e5⟩ := rs_143_17 (T := fun i => if i = y then none else t.1 i) (B := t.2.2.1) hx hc6 6 0 1000 (ds_w N 105 y (-1)) rfl (by decide) (fun i hi => by rw [dw_r _ _ _ (by decide), if_pos (Nat.zero_le _)]; exact (H.1 i hi).2.2) (fun i hi => Or.inr (Nat.zero_le _)) (fun i hi => by
    rw [if_neg (by omega)]
    by_cases e : i = y
    · subst e; rw [dw_s]; simp; rfl
    · rw [dw_n _ _ e, (H.1 i hi).1]; simp [e])
  refine ⟨N', e1, ⟨fun i hi => ?_, ?_⟩, fr_tr (fr_w (fr_refl _ _) (by decide)) e4, fs_tr (fs_w (fs_refl _ _) (by simp)) e5⟩
  · obtain ⟨g1, g2, g3⟩ := e2 i hi
    refine ⟨?_, by rw [g2]; rfl, by rw [g3]; rfl⟩
    rw [g1]; unfold ty_sh
    by_cases e : i = x
    · simp [e, hc, en_o_s]
    · by_cases hb : t.2.2.1 i = true
      · simp [e, hb]; rfl
      · by_cases ey : i = y
        · rw [if_neg e, if_neg hb, if_pos ey]
          show en_o none = en_o (if i = x then _ else if i = y ∨ _ then none else _)
          rw [if_neg e, if_pos (Or.inl ey)]
        · simp [e, hb, ey]
  · rw [e3]; rfl
end
