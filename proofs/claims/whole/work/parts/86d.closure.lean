/-! Both find the closure of what they begin with: R t c, object t by capability c -/
def rt_R (s : (Nat → Bool) × (Nat → Bool)) (R : Nat → Nat → Prop) : Prop := (∀ o, s.1 o = true ↔ ∃ c, R o c) ∧ ∀ o, s.2 o = true ↔ ∃ c, c < 5 ∧ R o c
def mt_R (mb : Nat → Nat → Bool) (R : Nat → Nat → Prop) : Prop := ∀ o c, mb o c = true ↔ R o c
/-- in the closure; deep in it -/
def gh_C1 (pl : Nat → Nat → Option Nat) (R : Nat → Nat → Prop) (o : Nat) : Prop := ∃ t c, R t c ∧ gh_cl pl t c o
def gh_D1 (pl : Nat → Nat → Option Nat) (R : Nat → Nat → Prop) (o : Nat) : Prop := ∃ t c, R t c ∧ c < 5 ∧ gh_dp pl t o
section
variable {N M : am_M} {pl : Nat → Nat → Option Nat} {ow : Nat → Option Nat} {R : Nat → Nat → Prop} {cl : Nat → Bool} {s : (Nat → Bool) × (Nat → Bool)} {mb : Nat → Nat → Bool} {w : Nat → Nat} {z a : Nat}
theorem rt_R_rt (H : rt_R s R) (v : Option Nat) (c : Nat) : rt_R (ab_rt v c s) (fun o k => R o k ∨ (v = some o ∧ k = c)) := by
  cases v with
  | none =>
    refine ⟨fun o => ?_, fun o => ?_⟩
    · rw [show (ab_rt none c s).1 o = s.1 o from rfl, H.1 o]; simp
    · rw [show (ab_rt none c s).2 o = s.2 o from rfl, H.2 o]; simp
  | some t =>
    refine ⟨fun o => ?_, fun o => ?_⟩
    · by_cases e : o = t
      · subst e; exact ⟨fun _ => ⟨c, Or.inr ⟨rfl, rfl⟩⟩, fun _ => ab_rt_2.1⟩
      · have : (ab_rt (some t) c s).1 o = s.1 o := by simp [ab_rt, e]
        rw [this, H.1 o]
        constructor
        · rintro ⟨k, h⟩; exact ⟨k, Or.inl h⟩
        · rintro ⟨k, h | ⟨h, _⟩⟩
          · exact ⟨k, h⟩
          · injection h with h; exact absurd h.symm e
    · by_cases e : o = t
      · subst e
        have : (ab_rt (some o) c s).2 o = (s.2 o || decide (c < 5)) := by simp [ab_rt]
        rw [this, Bool.or_eq_true, H.2 o, decide_eq_true_eq]
        constructor
        · rintro (⟨k, h5, h⟩ | h)
          · exact ⟨k, h5, Or.inl h⟩
          · exact ⟨c, h, Or.inr ⟨rfl, rfl⟩⟩
        · rintro ⟨k, h5, h | ⟨_, rfl⟩⟩
          · exact Or.inl ⟨k, h5, h⟩
          · exact Or.inr h5
      · have : (ab_rt (some t) c s).2 o = s.2 o := by simp [ab_rt, e]
        rw [this, H.2 o]
        constructor
        · rintro ⟨k, h5, h⟩; exact ⟨k, h5, Or.inl h⟩
        · rintro ⟨k, h5, h | ⟨h, _⟩⟩
          · exact ⟨k, h5, h⟩
          · injection h with h; exact absurd h.symm e
theorem mt_R_mt (H : mt_R mb R) (v : Option Nat) (c : Nat) : mt_R (ab_mt v c mb) (fun o k => R o k ∨ (v = some o ∧ k = c)) := by
  intro o k
  cases v with
  | none => rw [show ab_mt none c mb o k = mb o k from rfl, H o k]; simp
  | some t =>
    show gh_u mb t c true o k = true ↔ _
    by_cases e : o = t ∧ k = c
    · obtain ⟨rfl, rfl⟩ := e; rw [gh_u_s]; exact ⟨fun _ => Or.inr ⟨rfl, rfl⟩, fun _ => rfl⟩
    · rw [gh_u_n _ _ e, H o k]
      constructor
      · exact Or.inl
      · rintro (h | ⟨h, h'⟩)
        · exact h
        · injection h with h; exact absurd ⟨h.symm, h'⟩ e
theorem rt_R_0 : rt_R (fun _ => false, fun _ => false) (fun _ _ => False) := ⟨fun o => by simp, fun o => by simp⟩
theorem mt_R_0 : mt_R (fun _ _ => false) (fun _ _ => False) := fun o c => by simp
theorem rt_R_eq {R' : Nat → Nat → Prop} (H : rt_R s R) (h : ∀ o c, R o c ↔ R' o c) : rt_R s R' := by
  have : R = R' := by funext o c; exact propext (h o c)
  rw [← this]; exact H
theorem mt_R_eq {R' : Nat → Nat → Prop} (H : mt_R mb R) (h : ∀ o c, R o c ↔ R' o c) : mt_R mb R' := by
  have : R = R' := by funext o c; exact propext (h o c)
  rw [← this]; exact H
/-- spread finds the closure -/
theorem rs_clo (hw : ∀ h k t, h < 20 → pl h k = some t → t < 16) (h6 : ∀ p k t, p < 16 → pl p k = some t → k < 6) (H : rf_wk N s.1 s.2) (hH : rf_H N pl) (hR : rt_R s R) (hcl : ∀ o, o < 16 → (cl o = true ↔ gh_C1 pl R o)) : ∃ N', fd_160 N = some N' ∧ rf_in N' cl ∧ fr_ [112, 113] N N' := by
  obtain ⟨N', s', e1, e2, e3, e4, e5, e6⟩ := rs_160 hw H hH
  refine ⟨N', e1, fun o ho => ?_, e3⟩
  have key : s'.1 o = true ↔ gh_C1 pl R o := by
    constructor
    · intro h
      refine (e6 (gh_C1 pl R) (gh_D1 pl R) ?_ ?_ ?_).1 o h
      · rintro p k u hp hk ⟨t, c, hr, h5, hd⟩ hu
        exact ⟨⟨t, c, hr, Or.inr ⟨h5, p, k, hd, hp, hu⟩⟩, fun k5 => ⟨t, c, hr, h5, gh_dp_step hd hp k5 hu⟩⟩
      · intro o h; obtain ⟨c, h⟩ := (hR.1 o).mp h; exact ⟨o, c, h, Or.inl rfl⟩
      · intro o h; obtain ⟨c, h5, h⟩ := (hR.2 o).mp h; exact ⟨o, c, h, h5, gh_dp_refl o⟩
    · rintro ⟨t, c, hr, h⟩
      rcases h with rfl | ⟨c5, p, k, hd, hp, hu⟩
      · exact (e4 o).1 ((hR.1 o).mpr ⟨c, hr⟩)
      · have hsp : s'.2 p = true := gh_dp_ind (fun x => s'.2 x = true) ((e4 t).2 ((hR.2 t).mpr ⟨c, c5, hr⟩)) (fun p k u _ hq h16 hk hu => (e5 p k u h16 (by omega) hq hu).2 hk) hd
        exact (e5 p k o hp (h6 p k o hp hu) hsp hu).1
  rw [(e2 o ho).1]
  by_cases h : cl o = true
  · rw [if_pos h, key.mpr ((hcl o ho).mp h)]; rfl
  · rw [if_neg h]
    have : s'.1 o = false := by
      cases hs : s'.1 o with
      | false => rfl
      | true => exact absurd ((hcl o ho).mpr (key.mp hs)) h
    rw [this]; rfl
/-- followClosure finds the closure, when it comes to objects alone that are -/
theorem cs_clo (hw : ∀ h k t, h < 20 → pl h k = some t → t < 16) (h6 : ∀ p k t, p < 16 → pl p k = some t → k < 6) (H : cl_wk M mb w z) (hH : cl_H M pl ow) (hR : mt_R mb R) (hR6 : ∀ t c, R t c → c < 6) (hl : ∀ p, p < 16 → gh_D1 pl R p → ow p ≠ none) (hcl : ∀ o, o < 16 → (cl o = true ↔ gh_C1 pl R o)) : ∃ M', fd_78 M = some M' ∧ cl_in M' cl ∧ fr_ [89, 90, 91] M M' := by
  have hDS : ∀ p c, c < 5 → (R p c ∨ ∃ t c0 p', R t c0 ∧ c0 < 5 ∧ gh_dp pl t p' ∧ p' < 16 ∧ pl p' c = some p) → gh_D1 pl R p := by
    rintro p c h5 (h | ⟨t, c0, p', h1, h2, h3, h4, h5'⟩)
    · exact ⟨p, c, h, h5, gh_dp_refl p⟩
    · exact ⟨t, c0, h1, h2, gh_dp_step h3 h4 h5 h5'⟩
  obtain ⟨M', mb', w', z', e1, e2, e3, e4, e5, e6⟩ := cs_78_2 hw (fun o c => R o c ∨ ∃ t c0 p, R t c0 ∧ c0 < 5 ∧ gh_dp pl t p ∧ p < 16 ∧ pl p c = some o) (fun p c k u hp hc hk hS hu => by
    obtain ⟨t, c0, h1, h2, h3⟩ := hDS p c hc hS
    exact Or.inr ⟨t, c0, p, h1, h2, h3, hp, hu⟩) 96 0 1000 M mb w z rfl (by decide) H (fun p c k hp hc hS hk => hH.1 p k hp hk (hl p hp (hDS p c hc hS))) (fun o c h => Or.inl ((hR o c).mp h)) (fun j hj => by omega)
  refine ⟨M', e1, fun o ho => ?_, e3⟩
  have key : (∃ c, c < 6 ∧ mb' o c = true) ↔ gh_C1 pl R o := by
    constructor
    · rintro ⟨c, hc, h⟩
      rcases e5 o c h with h | ⟨t, c0, p, h1, h2, h3, h4, h5⟩
      · exact ⟨o, c, h, Or.inl rfl⟩
      · exact ⟨t, c0, h1, Or.inr ⟨h2, p, c, h3, h4, h5⟩⟩
    · rintro ⟨t, c, hr, h⟩
      rcases h with rfl | ⟨c5, p, k, hd, hp, hu⟩
      · exact ⟨c, hR6 _ _ hr, e4 o c ((hR o c).mpr hr)⟩
      · have hsp : ∃ j, j < 5 ∧ mb' p j = true := gh_dp_ind (fun x => ∃ j, j < 5 ∧ mb' x j = true) ⟨c, c5, e4 t c ((hR t c).mpr hr)⟩ (fun p k u _ hq h16 hk hu => by
          obtain ⟨j, hj, hm⟩ := hq
          exact ⟨k, hk, e6 p j k u h16 hj (by omega) hm hu⟩) hd
        obtain ⟨j, hj, hm⟩ := hsp
        exact ⟨k, h6 p k o hp hu, e6 p j k o hp hj (h6 p k o hp hu) hm hu⟩
  rw [e2.1 o ho, eb_0]
  constructor
  · intro h
    cases hc : cl o with
    | false => rfl
    | true =>
      obtain ⟨c, hc6, hm⟩ := key.mpr ((hcl o ho).mp hc)
      rw [h c hc6] at hm; cases hm
  · intro h c hc6
    cases hm : mb' o c with
    | false => rfl
    | true =>
      rw [(hcl o ho).mpr (key.mp ⟨c, hc6, hm⟩)] at h; cases h
/-- ownRoots -/
theorem rs_169_2 (hw : ∀ h k t, h < 20 → pl h k = some t → t < 16) (ha : a < 4) : ∀ (k j f : Nat) (N : am_M) (s : (Nat → Bool) × (Nat → Bool)) (R : Nat → Nat → Prop), j + k = 6 → k < f → rf_wk N s.1 s.2 → rf_H N pl → rt_R s R → ∃ (N' : am_M) (s' : (Nat → Bool) × (Nat → Bool)), fd_169_2 f (nI a) (nI j) N = some N' ∧ rf_wk N' s'.1 s'.2 ∧ fr_ [112, 113] N N' ∧ rt_R s' (fun t c => R t c ∨ (j ≤ c ∧ c < 6 ∧ pl (16 + a) c = some t))
  | _, _, 0, _, _, _, _, hf, _, _, _ => by omega
  | 0, j, f + 1, N, s, R, hj, _, H, hH, hR => by
    refine ⟨N, s, ?_, H, fr_refl _ _, rt_R_eq hR (fun o c => ⟨Or.inl, fun h => h.resolve_right (by omega)⟩)⟩
    rw [un_169_2]
    simp (disch := omega) only [pu_y6]
  | k + 1, j, f + 1, N, s, R, hj, hf, H, hH, hR => by
    rw [un_169_2]
    simp (disch := omega) only [pu_x6, pu_6, pu_cl, pu_g2]
    rw [hH.2 a j ha (by omega)]
    obtain ⟨N1, e1, e2, e3⟩ := rs_159 (v := pl (16 + a) j) (c := j) (s := s) (fun t ht => hw _ _ t (by omega) ht) (by omega) H
    rw [e1, Option.bind_some, nI_1]
    obtain ⟨N2, s2, f1, f2, f3, f4⟩ := rs_169_2 hw ha k (j + 1) f N1 _ _ (by omega) (by omega) e2 ⟨fun h k h1 h2 => by rw [e3 99 (by decide)]; exact hH.1 h k h1 h2, fun a k h1 h2 => by rw [e3 101 (by decide)]; exact hH.2 a k h1 h2⟩ (rt_R_rt hR _ _)
    refine ⟨N2, s2, f1, f2, fr_tr e3 f3, rt_R_eq f4 (fun o c => ?_)⟩
    constructor
    · rintro ((h | ⟨h, rfl⟩) | ⟨h1, h2, h3⟩)
      · exact Or.inl h
      · exact Or.inr ⟨Nat.le_refl _, by omega, h⟩
      · exact Or.inr ⟨by omega, h2, h3⟩
    · rintro (h | ⟨h1, h2, h3⟩)
      · exact Or.inl (Or.inl h)
      · by_cases e : c = j
        · subst e; exact Or.inl (Or.inr ⟨h3, rfl⟩)
        · exact Or.inr ⟨by omega, h2, h3⟩
/-- meetFields -/
theorem cs_105_2 (hw : ∀ h k t, h < 20 → pl h k = some t → t < 16) (ha : a < 4) : ∀ (k j f : Nat) (M : am_M) (mb : Nat → Nat → Bool) (w : Nat → Nat) (z : Nat) (R : Nat → Nat → Prop), j + k = 6 → k < f → cl_wk M mb w z → cl_H M pl ow → mt_R mb R → ∃ (M' : am_M) (mb' : Nat → Nat → Bool) (w' : Nat → Nat) (z' : Nat), fd_105_2 f (nI a) (nI j) M = some M' ∧ cl_wk M' mb' w' z' ∧ fr_ [89, 90, 91] M M' ∧ mt_R mb' (fun t c => R t c ∨ (j ≤ c ∧ c < 6 ∧ pl (16 + a) c = some t))
  | _, _, 0, _, _, _, _, _, _, hf, _, _, _ => by omega
  | 0, j, f + 1, M, mb, w, z, R, hj, _, H, hH, hR => by
    refine ⟨M, mb, w, z, ?_, H, fr_refl _ _, mt_R_eq hR (fun o c => ⟨Or.inl, fun h => h.resolve_right (by omega)⟩)⟩
    rw [un_105_2]
    simp (disch := omega) only [pu_y6]
  | k + 1, j, f + 1, M, mb, w, z, R, hj, hf, H, hH, hR => by
    rw [un_105_2]
    simp (disch := omega) only [pu_x6]
    unfold fd_91
    rw [Option.bind_some]
    simp only [show ((16 : Int32) + nI a) = nI (16 + a) from nI_add 16 a]
    rw [sp_79 (show 16 + a < 20 by omega) (show j < 6 by omega), Option.bind_some]
    simp only [hH.2 a j ha (show j < 6 by omega)]
    obtain ⟨M1, w1, z1, e1, e2, e3, _, _⟩ := cs_77 (v := pl (16 + a) j) (c := j) (fun t ht => hw _ _ t (by omega) ht) (by omega) H
    rw [e1, Option.bind_some, nI_1]
    obtain ⟨M2, mb2, w2, z2, f1, f2, f3, f4⟩ := cs_105_2 hw ha k (j + 1) f M1 _ w1 z1 _ (by omega) (by omega) e2 ⟨fun h k h1 h2 h3 => by rw [e3 82 (by decide)]; exact hH.1 h k h1 h2 h3, fun a k h1 h2 => by rw [e3 82 (by decide)]; exact hH.2 a k h1 h2⟩ (mt_R_mt hR _ _)
    refine ⟨M2, mb2, w2, z2, f1, f2, fr_tr e3 f3, mt_R_eq f4 (fun o c => ?_)⟩
    constructor
    · rintro ((h | ⟨h, rfl⟩) | ⟨h1, h2, h3⟩)
      · exact Or.inl h
      · exact Or.inr ⟨Nat.le_refl _, by omega, h⟩
      · exact Or.inr ⟨by omega, h2, h3⟩
    · rintro (h | ⟨h1, h2, h3⟩)
      · exact Or.inl (Or.inl h)
      · by_cases e : c = j
        · subst e; exact Or.inl (Or.inr ⟨h3, rfl⟩)
        · exact Or.inr ⟨by omega, h2, h3⟩
theorem rf_H_f {N' : am_M} (H : rf_H N pl) (h1 : N' 99 = N 99) (h2 : N' 101 = N 101) : rf_H N' pl := by unfold rf_H; rw [h1, h2]; exact H
theorem cl_H_f {M' : am_M} (H : cl_H M pl ow) (h1 : M' 82 = M 82) : cl_H M' pl ow := by unfold cl_H; rw [h1]; exact H
/-- clear, root, spread -/
theorem rs_one {v : Option Nat} {c : Nat} (hw : ∀ h k t, h < 20 → pl h k = some t → t < 16) (h6 : ∀ p k t, p < 16 → pl p k = some t → k < 6) (hv : ∀ t, v = some t → t < 16) (hc : c < 6) (hH : rf_H N pl) (hcl : ∀ o, o < 16 → (cl o = true ↔ ∃ t, v = some t ∧ gh_cl pl t c o)) : ∃ N1 N2 N3, fd_158 N = some N1 ∧ fd_159 (en_o v) (nI c) N1 = some N2 ∧ fd_160 N2 = some N3 ∧ rf_in N3 cl ∧ fr_ [112, 113] N N1 ∧ fr_ [112, 113] N N2 ∧ fr_ [112, 113] N N3 := by
  obtain ⟨N1, e1, e2, e3⟩ := rs_158 N
  obtain ⟨N2, f1, f2, f3⟩ := rs_159 (v := v) (c := c) (s := (fun _ => false, fun _ => false)) hv hc e2
  have fr2 := fr_tr e3 f3
  obtain ⟨N3, g1, g2, g3⟩ := rs_clo (R := fun o k => v = some o ∧ k = c) (cl := cl) hw h6 f2 (rf_H_f hH (fr2 _ (by decide)) (fr2 _ (by decide))) (rt_R_eq (rt_R_rt rt_R_0 v c) (fun o k => by simp)) (fun o ho => by
    rw [hcl o ho]
    constructor
    · rintro ⟨t, ht, h⟩; exact ⟨t, c, ⟨ht, rfl⟩, h⟩
    · rintro ⟨t, k, ⟨ht, rfl⟩, h⟩; exact ⟨t, ht, h⟩)
  exact ⟨N1, N2, N3, e1, f1, g1, g2, e3, fr2, fr_tr fr2 g3⟩
/-- startFrom, followClosure -/
theorem cs_one {v : Option Nat} {c : Nat} (hw : ∀ h k t, h < 20 → pl h k = some t → t < 16) (h6 : ∀ p k t, p < 16 → pl p k = some t → k < 6) (hv : ∀ t, v = some t → t < 16) (hc : c < 6) (hH : cl_H M pl ow) (hl : ∀ t p, v = some t → c < 5 → p < 16 → gh_dp pl t p → ow p ≠ none) (hcl : ∀ o, o < 16 → (cl o = true ↔ ∃ t, v = some t ∧ gh_cl pl t c o)) : ∃ M1 M2, fd_75 (en_o v) (nI c) M = some M1 ∧ fd_78 M1 = some M2 ∧ cl_in M2 cl ∧ fr_ [89, 90, 91] M M1 ∧ fr_ [89, 90, 91] M M2 := by
  obtain ⟨M0, e1, e2, e3⟩ := cs_76 M
  obtain ⟨M1, w1, z1, f1, f2, f3, _, _⟩ := cs_77 (v := v) (c := c) hv hc e2
  have fr2 := fr_tr e3 f3
  obtain ⟨M2, g1, g2, g3⟩ := cs_clo (R := fun o k => v = some o ∧ k = c) (cl := cl) (ow := ow) hw h6 f2 (cl_H_f hH (fr2 _ (by decide))) (mt_R_eq (mt_R_mt mt_R_0 v c) (fun o k => by simp)) (fun t k h => by rw [h.2]; exact hc) (fun p hp ⟨t, k, ⟨h1, h2⟩, h3, h4⟩ => hl t p h1 (by omega) hp h4) (fun o ho => by
    rw [hcl o ho]
    constructor
    · rintro ⟨t, ht, h⟩; exact ⟨t, c, ⟨ht, rfl⟩, h⟩
    · rintro ⟨t, k, ⟨ht, rfl⟩, h⟩; exact ⟨t, ht, h⟩)
  refine ⟨M1, M2, ?_, g1, g2, fr2, fr_tr fr2 g3⟩
  unfold fd_75
  rw [e1, Option.bind_some, f1]; rfl
end
