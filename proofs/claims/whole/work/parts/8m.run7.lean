/-! A behaviour runs -/
section
variable {bg : Nat} {op : Bool} {pr ln : Nat → Nat} {cd : Nat → Nat → Nat → Int32} {a n bh : Nat}
theorem cl_P_q {M M' : am_M} (hok : pg_ok bg pr ln cd) (H : cl_P M bg op pr ln cd) (h : fr_q M M') : cl_P M' bg op pr ln cd := by
  have b6 := hok.1
  obtain ⟨h1, h2, h3⟩ := H
  refine ⟨by rw [h.1 1 (by omega)]; exact h1, by rw [h.1 1 (by omega)]; exact h2, fun b hb => ?_⟩
  obtain ⟨p1, p2, p3⟩ := h3 b hb
  have l10 := (hok.2 b hb).2.2.1
  exact ⟨by rw [h.1 _ (by omega)]; exact p1, by rw [h.1 _ (by omega)]; exact p2, fun k i hk hi => by rw [h.1 _ (by omega)]; exact p3 k i hk hi⟩
theorem rf_P_n {N N' : am_M} (H : rf_P N bg op pr ln cd) (h : fr_n N N') : rf_P N' bg op pr ln cd := rf_P_f H (h.2 6 (by decide) (by decide) (by decide)) (h.2 7 (by decide) (by decide) (by decide)) (h.1 _ (by simp)) (h.1 _ (by simp)) (h.1 _ (by simp))
theorem ex_run (hok : pg_ok bg pr ln cd) (hb : bh < pg_f bg op) (ha : a < n) : ∀ (k i f : Nat) (M N : am_M) (b : Nat) (pl : Nat → Nat → Option Nat) (ow : Nat → Option Nat) (ct : Nat → Nat → Int) (q : ct_Q) (m : Nat) (ce : Nat → Int32) (lo : Nat → Option Nat) (ls : Int32) (sh : Nat → Int32) (tt : Nat) (Bd : Int), i + k = ln bh → k < f → cl_S M pl ow ct q m ce ls sh tt → rf_S N pl ow ct q m ce ls sh tt → cl_L M lo → rf_L N lo → sy_R a b n (pg_f bg op) pr (ty_at (pr bh) (cd bh) i) pl ow ct q m lo Bd → cl_P M bg op pr ln cd → rf_P N bg op pr ln cd → M 94 0 = nI n → N 96 0 = nI n → 0 ≤ Bd → Bd + 15 * k < 900000 → tt + k < 90000 → ∃ M' N' b' pl' ow' ct' q' m' ce' lo' ls' sh' tt', fd_84_18 f (nI a) (7 + 12 * bh) (nI i) M = some M' ∧ fd_156_227 f (nI a) (nI bh) (nI i) N = some (0, N') ∧ cl_S M' pl' ow' ct' q' m' ce' ls' sh' tt' ∧ rf_S N' pl' ow' ct' q' m' ce' ls' sh' tt' ∧ sy_R a b' n (pg_f bg op) pr (ty_at (pr bh) (cd bh) (ln bh)) pl' ow' ct' q' m' lo' (Bd + 15 * k) ∧ fr_q M M' ∧ fr_n N N' ∧ tt' ≤ tt + k
  | _, _, 0, _, _, _, _, _, _, _, _, _, _, _, _, _, _, _, hf, _, _, _, _, _, _, _, _, _, _, _, _ => by omega
  | 0, i, f + 1, M, N, b, pl, ow, ct, q, m, ce, lo, ls, sh, tt, Bd, hi, _, hS, hT, hL, hL', R, hP, hQ, hM0, hN0, hB0, hB, htt => by
    have b6 := hok.1
    have hbg : bh < bg := by unfold pg_f at hb; split at hb <;> omega
    have l10 := (hok.2 bh hbg).2.2.1
    refine ⟨M, N, b, pl, ow, ct, q, m, ce, lo, ls, sh, tt, ?_, ?_, hS, hT, ?_, fr_q_refl _, fr_n_refl _, by omega⟩
    · rw [un_84_18]
      unfold fd_24
      rw [(hP.2.2 bh hbg).2.1, Option.bind_some]
      exact pu_end (by omega) (by omega)
    · rw [un_156_227]
      simp (disch := omega) only [pu_cl, pu_g2]
      rw [(hQ.2.2 bh hbg).2.1, pu_end (by omega) (by omega)]
    · rw [show ln bh = i by omega]; exact sy_R_B R (by omega)
  | k + 1, i, f + 1, M, N, b, pl, ow, ct, q, m, ce, lo, ls, sh, tt, Bd, hi, hf, hS, hT, hL, hL', R, hP, hQ, hM0, hN0, hB0, hB, htt => by
    have b6 := hok.1
    have hfle : pg_f bg op ≤ bg := by unfold pg_f; split <;> omega
    have hbg : bh < bg := by omega
    obtain ⟨o1, o2, l10, o4⟩ := hok.2 bh hbg
    have hst := o4 i (by omega)
    obtain ⟨M1, N1, g1, g2, X⟩ := ex_st (h := 9 + 12 * bh + i) (at' := 50 * bh + 5 * i) hS hT hL hL' R (ty_at_w o2 (fun k hk => o4 k hk) i (by omega)) (ty_at_v o2 (fun k hk => o4 k hk) i (by omega)) ha hM0 hN0 (by omega) (fun b' hb' => ⟨(hok.2 b' (by omega)).1, (hok.2 b' (by omega)).2.1, (hP.2.2 b' (by omega)).1, (hQ.2.2 b' (by omega)).1⟩) (show bh + 1 ≤ pg_f bg op by omega) hst (by omega) (fun j hj => (hP.2.2 bh hbg).2.2 i j (by omega) hj) (by omega) (fun j hj => (hQ.2.2 bh hbg).2.2 i j (by omega) hj) hB0 (by omega) (by omega)
    obtain ⟨b', pl', ow', ct', q', m', ce', lo', ls', sh', tt', x1, x2, x3, x4, x5, x6, x7, x8⟩ := X
    obtain ⟨M2, N2, b2, pl2, ow2, ct2, q2, m2, ce2, lo2, ls2, sh2, tt2, y1, y2, y3, y4, y5, y6, y7, y8⟩ := ex_run hok hb ha k (i + 1) f M1 N1 b' pl' ow' ct' q' m' ce' lo' ls' sh' tt' (Bd + 15) (by omega) (by omega) x1 x2 x3 x4 x5 (cl_P_q hok hP x6) (rf_P_n hQ x7) (by rw [x6.2]; exact hM0) (by rw [x7.2 0 (by decide) (by decide) (by decide)]; exact hN0) (by omega) (by omega) (by omega)
    refine ⟨M2, N2, b2, pl2, ow2, ct2, q2, m2, ce2, lo2, ls2, sh2, tt2, ?_, ?_, y3, y4, sy_R_B y5 (by omega), fr_q_tr x6 y6, fr_n_tr x7 y7, by omega⟩
    · rw [un_84_18]
      unfold fd_24 fd_25
      rw [(hP.2.2 bh hbg).2.1, Option.bind_some, pu_go (by omega) (by omega)]
      simp (disch := omega) only [pu_cl, pu_g2]
      rw [Option.bind_some]
      dsimp only
      rw [show 7 + 12 * bh + 2 + i = 9 + 12 * bh + i by omega, g1, Option.bind_some, nI_1]; exact y1
    · rw [un_156_227]
      simp (disch := omega) only [pu_cl, pu_g2]
      rw [(hQ.2.2 bh hbg).2.1, pu_go (by omega) (by omega), show ((50 : Int32) * nI bh) = nI (50 * bh) from pk_mul 50 bh, show ((5 : Int32) * nI i) = nI (5 * i) from pk_mul 5 i, nI_add, g2, Option.bind_some, nI_1]; exact y2
/-- locals filled with NONE -/
theorem rs_156_195 (x4 x5 : Int32) : ∀ (k i f : Nat) (N : am_M), i + k = 6 → k < f → (∀ x, x < i → N 115 x = -1) → ∃ N', fd_156_195 f (nI a) x4 x5 (nI i) N = fd_156_227 1000 (nI a) x4 0 N' ∧ (∀ x, x < 6 → N' 115 x = if x = 0 then x5 else -1) ∧ fr_ [115] N N'
  | _, _, 0, _, _, hf, _ => by omega
  | 0, i, f + 1, N, hi, _, h => by
    rw [un_156_195]
    simp (disch := omega) only [pu_y6]
    rw [if_neg (by decide)]
    refine ⟨_, rfl, fun x hx => ?_, fr_w (fr_refl _ _) (by decide)⟩
    by_cases e : x = 0
    · subst e; rw [if_pos rfl]; exact dw_s _ _ _ _
    · rw [if_neg e, dw_n _ _ (by show x ≠ 0; exact e)]; exact h x (by omega)
  | k + 1, i, f + 1, N, hi, hf, h => by
    rw [un_156_195]
    simp (disch := omega) only [pu_x6, pu_cl, pu_g2]
    rw [nI_1]
    obtain ⟨N', e1, e2, e3⟩ := rs_156_195 x4 x5 k (i + 1) f (ds_w N 115 i (-1)) (by omega) (by omega) (fun x hx => by
      by_cases e : x = i
      · subst e; exact dw_s _ _ _ _
      · rw [dw_n _ _ e]; exact h x (by omega))
    exact ⟨N', e1, e2, fr_tr (fr_w (fr_refl _ _) (by decide)) e3⟩
/-- nobody's locals -/
def ty_e : ty_T := (fun _ => none, fun _ => false, fun _ => false, false)
variable {pl : Nat → Nat → Option Nat} {ow : Nat → Option Nat} {ct : Nat → Nat → Int} {q : ct_Q} {m : Nat} {lo lo' : Nat → Option Nat} {b nf : Nat} {t : ty_T} {Bd : Int}
/-- the run is over: whoever comes next -/
theorem sy_end (a' : Nat) (R : sy_R a b n nf pr t pl ow ct q m lo Bd) (hlo : ∀ x v, lo' x = some v → v < 16) : ∃ b', sy_R a' b' n nf pr ty_e (fun h k => if h = 20 then none else pl h k) ow ct q m lo' Bd := by
  obtain ⟨⟨g, V, J⟩, h2, h3, h4, h5, h6, h7, h8, h9, ⟨k1, k2, k3, k4, k5⟩, h11⟩ := R
  obtain ⟨b', _, hfr⟩ := gh_fresh g b
  have J1 : gh_J a b (sy_K ow ct) (sy_E ow) (fun h k => if h = 20 then none else pl h k) (sy_cb pr q ty_e) (sy_cx a b t) g V := by
    refine gh_J_mono J (fun h k u hu => ?_) J.2.2.2.2.2
    by_cases e : h = 20
    · simp [e] at hu
    · simp only [if_neg e] at hu
      refine ⟨hu, ?_, fun _ => rfl⟩
      unfold gh_ca sy_cb; simp [e]
  have J2 := gh_J_rest (a' := a') (b' := b') J1 (fun h k h1 h2 => by
    by_cases e : h = 20
    · simp [e]
    · simp only [if_neg e]; exact h4 h k (by omega)) (fun _ => rfl) hfr
  have ec : sy_cx a' b' ty_e = gh_c0 a' := by funext h k; unfold sy_cx ty_e gh_c0; simp
  refine ⟨b', ⟨g, V, by rw [ec]; exact J2⟩, fun x => by simp [ty_e], hlo, fun h k hh => ?_, fun h k v hh hk => ?_, h6, h7, h8, h9, ⟨k1, k2, fun i o hi hk ho => ?_, fun i hi => by simp only [if_neg (show ¬ (21 = 20) by decide)]; exact k4 i hi, fun i v hv => k5 i v (by simpa using hv)⟩, h11⟩
  · simp only [if_neg (show ¬ h = 20 by omega)]; exact h4 h k hh
  · simp only [if_neg (show ¬ h = 20 by omega)] at hk; exact h5 h k v hh hk
  · rw [k3 i o hi hk ho]
    have cle : ∀ v c, gh_cl (fun h k => if h = 20 then none else pl h k) v c o ↔ gh_cl pl v c o := fun v c => gh_cl_eq (fun _ p k _ hp => if_neg (by omega))
    constructor
    · rintro ⟨v, g1, g2⟩; exact ⟨v, by simpa using g1, (cle v _).mpr g2⟩
    · rintro ⟨v, g1, g2⟩; exact ⟨v, by simpa using g1, (cle v _).mp g2⟩
end
