/-! Freeing, and giving counts back -/
def ab_fpl (o : Nat) (pl : Nat → Nat → Option Nat) : Nat → Nat → Option Nat := fun h k => if h = o ∨ pl h k = some o then none else pl h k
def ab_fow (o : Nat) (ow : Nat → Option Nat) : Nat → Option Nat := fun u => if u = o then none else ow u
section
variable {N M : am_M} {pl : Nat → Nat → Option Nat} {ow : Nat → Option Nat} {ct : Nat → Nat → Int} {q : ct_Q} {m a o : Nat} {cl : Nat → Bool}
theorem rs_170_9 (ho : o < 16) : ∀ (k j f : Nat) (N : am_M), j + k = 96 → k < f → ∃ N', fd_170_9 f (nI o) (nI j) N = some N' ∧ (∀ i, N' 99 i = if j ≤ i ∧ i < 96 ∧ (N 99 i = nI o ∨ i / 6 = o) then -1 else N 99 i) ∧ fr_ [99] N N'
  | _, _, 0, _, _, hf => by omega
  | 0, j, f + 1, N, hj, _ => by
    refine ⟨N, ?_, fun i => ?_, fr_refl _ _⟩
    · rw [un_170_9]
      simp (disch := omega) only [pu_y96]
    · rw [if_neg (by omega)]
  | k + 1, j, f + 1, N, hj, hf => by
    rw [un_170_9]
    simp (disch := omega) only [pu_x96, pu_d6, pu_cl, pu_g2]
    unfold fd_170_33 fd_170_40
    simp (disch := omega) only [pu_cl, pu_g2]
    rw [nI_1]
    have ed : nI (j / 6) = nI o ↔ j / 6 = o := en_nI (by omega) (by omega)
    have hit : (N 99 j = nI o ∨ j / 6 = o) → ∃ N', fd_170_9 f (nI o) (nI (j + 1)) (ds_w N 99 j (-1)) = some N' ∧ (∀ i, N' 99 i = if j ≤ i ∧ i < 96 ∧ (N 99 i = nI o ∨ i / 6 = o) then -1 else N 99 i) ∧ fr_ [99] N N' := by
      intro hc
      obtain ⟨N', e1, e2, e3⟩ := rs_170_9 ho k (j + 1) f (ds_w N 99 j (-1)) (by omega) (by omega)
      refine ⟨N', e1, fun i => ?_, fr_tr (fr_w (fr_refl _ _) (by decide)) e3⟩
      rw [e2 i]
      by_cases e : i = j
      · subst e
        rw [if_neg (by omega), dw_s, if_pos ⟨Nat.le_refl _, by omega, hc⟩]
      · rw [dw_n _ _ e]
        by_cases c : j ≤ i ∧ i < 96 ∧ (N 99 i = nI o ∨ i / 6 = o)
        · rw [if_pos c, if_pos ⟨by omega, c.2.1, c.2.2⟩]
        · rw [if_neg c, if_neg (fun g => c ⟨by omega, g.2.1, g.2.2⟩)]
    by_cases h1 : N 99 j = nI o
    · rw [if_pos h1]; exact hit (Or.inl h1)
    · rw [if_neg h1]
      by_cases h2 : j / 6 = o
      · rw [if_pos (ed.mpr h2)]; exact hit (Or.inr h2)
      · rw [if_neg (fun e => h2 (ed.mp e))]
        obtain ⟨N', e1, e2, e3⟩ := rs_170_9 ho k (j + 1) f N (by omega) (by omega)
        refine ⟨N', e1, fun i => ?_, e3⟩
        rw [e2 i]
        by_cases c : j ≤ i ∧ i < 96 ∧ (N 99 i = nI o ∨ i / 6 = o)
        · have : i ≠ j := by rintro rfl; exact c.2.2.elim h1 h2
          rw [if_pos c, if_pos ⟨by omega, c.2.1, c.2.2⟩]
        · rw [if_neg c, if_neg (fun g => c ⟨by omega, g.2.1, g.2.2⟩)]
theorem rs_170 (hw : ∀ h k t, h < 20 → pl h k = some t → t < 16) (ho : o < 16) (hH : rf_H N pl) (hO : rf_O N ow) (hQ : rf_Q N pl q m) (hn1 : ∀ b k, b < 4 → pl (16 + b) k ≠ some o) (hn2 : ∀ i, i < m → pl 21 i ≠ some o) : ∃ N', fd_170 (nI o) N = some N' ∧ rf_H N' (ab_fpl o pl) ∧ rf_O N' (ab_fow o ow) ∧ rf_Q N' (ab_fpl o pl) q m ∧ fr_ [97, 99] N N' := by
  unfold fd_170
  simp (disch := omega) only [pu_cl, pu_g2]
  obtain ⟨N', e1, e2, e3⟩ := rs_170_9 ho 96 0 1000 (ds_w N 97 o (-1)) rfl (by decide)
  have hr : ∀ h, h ≠ 97 → h ≠ 99 → N' h = N h := by
    intro h h1 h2; rw [e3 h (by simpa using h2), dw_r _ _ _ h1]
  refine ⟨N', e1, ⟨fun h k hh hk => ?_, fun b k hb hk => ?_⟩, fun u hu => ?_, ?_, fun h hh => hr h (by simp at hh; omega) (by simp at hh; omega)⟩
  · rw [e2, dw_r _ _ _ (by decide), hH.1 h k hh hk]
    have ed : (6 * h + k) / 6 = h := by omega
    have eo : en_o (pl h k) = nI o ↔ pl h k = some o := en_o_nI (by omega) (fun t ht => by have := hw h k t (by omega) ht; omega)
    unfold ab_fpl
    by_cases c : h = o ∨ pl h k = some o
    · rw [if_pos c, if_pos ⟨Nat.zero_le _, by omega, by rw [ed, eo]; exact c.symm⟩]; rfl
    · rw [if_neg c, if_neg (fun g => c (by have := g.2.2; rw [ed, eo] at this; exact this.symm))]
  · rw [hr 101 (by decide) (by decide)]
    unfold ab_fpl
    rw [if_neg (by rintro (h | h); omega; exact hn1 b k hb h)]
    exact hH.2 b k hb hk
  · rw [e3 97 (by decide)]
    unfold ab_fow
    by_cases e : u = o
    · subst e; rw [dw_s, if_pos rfl]; rfl
    · rw [dw_n _ _ e, if_neg e]; exact hO u hu
  · obtain ⟨q1, q2, q3⟩ := hQ
    refine ⟨by rw [hr 96 (by decide) (by decide)]; exact q1, q2, fun i hi => ?_⟩
    rw [hr 108 (by decide) (by decide), hr 109 (by decide) (by decide), hr 110 (by decide) (by decide), hr 111 (by decide) (by decide)]
    have : ab_fpl o pl 21 i = pl 21 i := by
      unfold ab_fpl; rw [if_neg]; rintro (h | h); omega; exact hn2 i hi h
    rw [this]; exact q3 i hi
theorem cs_108_9 (ho : o < 16) : ∀ (k j f : Nat) (M : am_M), j + k = 96 → k < f → ∃ M', fd_108_9 f (nI o) (nI j) M = some M' ∧ (∀ i, M' 82 i = if j ≤ i ∧ i < 96 ∧ M 82 i = nI o then -1 else M 82 i) ∧ fr_ [82] M M'
  | _, _, 0, _, _, hf => by omega
  | 0, j, f + 1, M, hj, _ => by
    refine ⟨M, ?_, fun i => ?_, fr_refl _ _⟩
    · rw [un_108_9]
      simp (disch := omega) only [pu_y96]
    · rw [if_neg (by omega)]
  | k + 1, j, f + 1, M, hj, hf => by
    rw [un_108_9]
    simp (disch := omega) only [pu_x96, pu_cl, pu_g2]
    unfold fd_108_32
    rw [nI_1]
    by_cases h1 : M 82 j = nI o
    · rw [if_pos h1]
      obtain ⟨N', e1, e2, e3⟩ := cs_108_9 ho k (j + 1) f (ds_w M 82 j (-1)) (by omega) (by omega)
      refine ⟨N', e1, fun i => ?_, fr_tr (fr_w (fr_refl _ _) (by decide)) e3⟩
      rw [e2 i]
      by_cases e : i = j
      · subst e
        rw [if_neg (by omega), dw_s, if_pos ⟨Nat.le_refl _, by omega, h1⟩]
      · rw [dw_n _ _ e]
        by_cases c : j ≤ i ∧ i < 96 ∧ M 82 i = nI o
        · rw [if_pos c, if_pos ⟨by omega, c.2.1, c.2.2⟩]
        · rw [if_neg c, if_neg (fun g => c ⟨by omega, g.2.1, g.2.2⟩)]
    · rw [if_neg h1]
      obtain ⟨N', e1, e2, e3⟩ := cs_108_9 ho k (j + 1) f M (by omega) (by omega)
      refine ⟨N', e1, fun i => ?_, e3⟩
      rw [e2 i]
      by_cases c : j ≤ i ∧ i < 96 ∧ M 82 i = nI o
      · have : i ≠ j := by rintro rfl; exact h1 c.2.2
        rw [if_pos c, if_pos ⟨by omega, c.2.1, c.2.2⟩]
      · rw [if_neg c, if_neg (fun g => c ⟨by omega, g.2.1, g.2.2⟩)]
theorem cs_108 {ce : Nat → Int32} (hw : ∀ h k t, h < 20 → pl h k = some t → t < 16) (ho : o < 16) (hH : cl_H M pl ow) (hO : cl_O M ow) (hQ : cl_Q M pl q m) (hC : cl_C M ow ce) (hn1 : ∀ b k, b < 4 → pl (16 + b) k ≠ some o) (hn2 : ∀ i, i < m → pl 21 i ≠ some o) : ∃ M', fd_108 (nI o) M = some M' ∧ cl_H M' (ab_fpl o pl) (ab_fow o ow) ∧ cl_O M' (ab_fow o ow) ∧ cl_Q M' (ab_fpl o pl) q m ∧ cl_C M' (ab_fow o ow) ce ∧ fr_ [80, 82] M M' := by
  unfold fd_108
  simp (disch := omega) only [pu_cl, pu_g2]
  obtain ⟨N', e1, e2, e3⟩ := cs_108_9 ho 96 0 1000 (ds_w M 80 o (-1)) rfl (by decide)
  have hr : ∀ h, h ≠ 80 → h ≠ 82 → N' h = M h := by
    intro h h1 h2; rw [e3 h (by simpa using h2), dw_r _ _ _ h1]
  have lv : ∀ u, ab_fow o ow u ≠ none → u ≠ o ∧ ow u ≠ none := by
    intro u h
    unfold ab_fow at h
    by_cases e : u = o
    · rw [if_pos e] at h; exact absurd rfl h
    · rw [if_neg e] at h; exact ⟨e, h⟩
  refine ⟨N', e1, ⟨fun h k hh hk hl => ?_, fun b k hb hk => ?_⟩, fun u hu => ?_, ?_, fun u hu hl => ?_, fun h hh => hr h (by simp at hh; omega) (by simp at hh; omega)⟩
  · obtain ⟨l1, l2⟩ := lv h hl
    rw [e2, dw_r _ _ _ (by decide), hH.1 h k hh hk l2]
    have eo : en_o (pl h k) = nI o ↔ pl h k = some o := en_o_nI (by omega) (fun t ht => by have := hw h k t (by omega) ht; omega)
    unfold ab_fpl
    by_cases c : pl h k = some o
    · rw [if_pos (Or.inr c), if_pos ⟨Nat.zero_le _, by omega, eo.mpr c⟩]; rfl
    · rw [if_neg (show ¬ (h = o ∨ pl h k = some o) by rintro (h | h); exact l1 h; exact c h), if_neg (fun g => c (eo.mp g.2.2))]
  · rw [e2, if_neg (by omega), dw_r _ _ _ (by decide)]
    unfold ab_fpl
    rw [if_neg (by rintro (h | h); omega; exact hn1 b k hb h)]
    exact hH.2 b k hb hk
  · rw [e3 80 (by decide)]
    unfold ab_fow
    by_cases e : u = o
    · subst e; rw [dw_s, if_pos rfl]; rfl
    · rw [dw_n _ _ e, if_neg e]; exact hO u hu
  · obtain ⟨q1, q2, q3⟩ := hQ
    refine ⟨by rw [hr 84 (by decide) (by decide)]; exact q1, q2, fun i hi => ?_⟩
    rw [hr 85 (by decide) (by decide), hr 86 (by decide) (by decide), hr 87 (by decide) (by decide), hr 88 (by decide) (by decide)]
    have : ab_fpl o pl 21 i = pl 21 i := by
      unfold ab_fpl; rw [if_neg]; rintro (h | h); omega; exact hn2 i hi h
    rw [this]; exact q3 i hi
  · rw [hr 81 (by decide) (by decide)]; exact hC u hu (lv u hl).2
end
/-! the loops of collecting -/
def ab_fs (cl : Nat → Bool) (ct : Nat → Nat → Int) (a : Nat) : Nat → Nat → (Nat → Nat → Option Nat) × (Nat → Option Nat) × Nat → (Nat → Nat → Option Nat) × (Nat → Option Nat) × Nat
  | 0, _, s => s
  | k + 1, u, s => ab_fs cl ct a k (u + 1) (if s.2.1 u = some a ∧ cl u = false ∧ ct a u = 0 then (ab_fpl u s.1, ab_fow u s.2.1, s.2.2 + 1) else s)
def ab_gs (cl : Nat → Bool) (ow : Nat → Option Nat) (a : Nat) : Nat → Nat → (Nat → Nat → Int) × ct_Q × Nat → (Nat → Nat → Int) × ct_Q × Nat
  | 0, _, s => s
  | k + 1, u, s => ab_gs cl ow a k (u + 1) (if ow u ≠ none ∧ ow u ≠ some a ∧ cl u = false ∧ s.1 a u ≠ 0 ∧ s.2.2 < 20 then (gh_u s.1 a u 0, ct_ap s.2.1 s.2.2 (2, (ow u).getD 0, u, s.1 a u, fun _ => false), s.2.2 + 1) else s)
theorem en_w0 : en_w 0 := ⟨by decide, by decide⟩
theorem en_0 (x : Int) (h : en_w x) : en_i x = (0 : Int32) ↔ x = 0 := en_i_eq h en_w0
theorem ab_fpl_le {u h k t : Nat} {pl : Nat → Nat → Option Nat} (e : ab_fpl u pl h k = some t) : pl h k = some t := by
  unfold ab_fpl at e; split at e
  · cases e
  · exact e
theorem ab_fow_le {u o t : Nat} {ow : Nat → Option Nat} (e : ab_fow u ow o = some t) : ow o = some t := by
  unfold ab_fow at e; split at e
  · cases e
  · exact e
section
variable {ct : Nat → Nat → Int} {q : ct_Q} {m a : Nat} {cl : Nat → Bool}
theorem rs_168_30 (ha : a < 4) (hc : ∀ o, o < 16 → en_w (ct a o)) : ∀ (k u f : Nat) (s : (Nat → Nat → Option Nat) × (Nat → Option Nat) × Nat) (N : am_M), u + k = 16 → k < f → (∀ h k t, h < 20 → s.1 h k = some t → t < 16) → (∀ o a, s.2.1 o = some a → a < 4) → rf_in N cl → rf_H N s.1 → rf_O N s.2.1 → rf_T N ct → rf_Q N s.1 q m → (∀ o, o < 16 → s.2.1 o = some a → cl o = false → ct a o = 0 → (∀ b k, b < 4 → s.1 (16 + b) k ≠ some o) ∧ ∀ i, i < m → s.1 21 i ≠ some o) → ∃ N', fd_168_30 f (nI a) (nI s.2.2) (nI u) N = fd_168_85 1000 (nI a) (nI (ab_fs cl ct a k u s).2.2) 0 N' ∧ rf_in N' cl ∧ rf_H N' (ab_fs cl ct a k u s).1 ∧ rf_O N' (ab_fs cl ct a k u s).2.1 ∧ rf_T N' ct ∧ rf_Q N' (ab_fs cl ct a k u s).1 q m ∧ fr_ [97, 99] N N'
  | _, _, 0, _, _, _, hf, _, _, _, _, _, _, _, _ => by omega
  | 0, u, f + 1, s, N, hu, _, hw, ho, hI, hH, hO, hT, hQ, hn => by
    refine ⟨N, ?_, hI, hH, hO, hT, hQ, fr_refl _ _⟩
    rw [un_168_30]
    simp (disch := omega) only [pu_y16]
    rfl
  | k + 1, u, f + 1, s, N, hu, hf, hw, ho, hI, hH, hO, hT, hQ, hn => by
    rw [un_168_30]
    simp (disch := omega) only [pu_x16, pu_16, pu_cl, pu_g2]
    unfold fd_168_77
    rw [nI_1, nI_1]
    have e97 : N 97 u = nI a ↔ s.2.1 u = some a := by rw [hO u (by omega)]; exact en_o_nI (by omega) (ow_lt ho u)
    have e112 : N 112 u = 0 ↔ cl u = false := by rw [hI u (by omega)]; cases cl u <;> simp
    have e100 : N 100 (16 * a + u) = 0 ↔ ct a u = 0 := by rw [hT a u ha (by omega)]; exact en_0 _ (hc u (by omega))
    have skip : ¬ (s.2.1 u = some a ∧ cl u = false ∧ ct a u = 0) → ∃ N', fd_168_30 f (nI a) (nI s.2.2) (nI (u + 1)) N = fd_168_85 1000 (nI a) (nI (ab_fs cl ct a (k + 1) u s).2.2) 0 N' ∧ rf_in N' cl ∧ rf_H N' (ab_fs cl ct a (k + 1) u s).1 ∧ rf_O N' (ab_fs cl ct a (k + 1) u s).2.1 ∧ rf_T N' ct ∧ rf_Q N' (ab_fs cl ct a (k + 1) u s).1 q m ∧ fr_ [97, 99] N N' := by
      intro hs
      rw [ab_fs, if_neg hs]
      exact rs_168_30 ha hc k (u + 1) f s N (by omega) (by omega) hw ho hI hH hO hT hQ hn
    by_cases h1 : s.2.1 u = some a
    · rw [if_pos (e97.mpr h1)]
      by_cases h2 : cl u = false
      · rw [if_pos (e112.mpr h2)]
        by_cases h3 : ct a u = 0
        · rw [if_pos (e100.mpr h3)]
          obtain ⟨n1, n2⟩ := hn u (by omega) h1 h2 h3
          obtain ⟨N1, g1, g2, g3, g4, g5⟩ := rs_170 hw (show u < 16 by omega) hH hO hQ n1 n2
          rw [g1, Option.bind_some, ab_fs, if_pos ⟨h1, h2, h3⟩]
          obtain ⟨N2, k1, k2, k3, k4, k5, k6, k7⟩ := rs_168_30 ha hc k (u + 1) f (ab_fpl u s.1, ab_fow u s.2.1, s.2.2 + 1) N1 (by omega) (by omega) (fun h k t hh ht => hw h k t hh (ab_fpl_le ht)) (fun o a h => ho o a (ab_fow_le h)) (fun o h => by rw [g5 112 (by decide)]; exact hI o h) g2 g3 (rf_T_f hT (g5 100 (by decide))) g4 (fun o h16 g1 g2 g3 => by
            obtain ⟨m1, m2⟩ := hn o h16 (ab_fow_le g1) g2 g3
            exact ⟨fun b k hb h => m1 b k hb (ab_fpl_le h), fun i hi h => m2 i hi (ab_fpl_le h)⟩)
          exact ⟨N2, k1, k2, k3, k4, k5, k6, fr_tr g5 k7⟩
        · rw [if_neg (fun e => h3 (e100.mp e))]; exact skip (fun h => h3 h.2.2)
      · rw [if_neg (fun e => h2 (e112.mp e))]; exact skip (fun h => h2 h.2.1)
    · rw [if_neg (fun e => h1 (e97.mp e))]; exact skip (fun h => h1 h.1)
theorem cs_106 {M : am_M} {ow : Nat → Option Nat} {u : Nat} (ho : ∀ o a, ow o = some a → a < 4) (hO : cl_O M ow) (hI : cl_in M cl) (hu : u < 16) : fd_106 (nI u) M = some (if ow u ≠ none ∧ cl u = false then 1 else 0, M) := by
  unfold fd_106
  have e80 : M 80 u = -1 ↔ ow u = none := by rw [hO u hu]; exact en_o_m1 (ow_lt ho u)
  rw [sp_107 hu, Option.bind_some]
  by_cases h1 : ow u = none
  · simp [e80.mpr h1, h1]
  · simp only [if_neg (fun e => h1 (e80.mp e)), if_neg pu_10]
    rw [cs_80 hI hu, Option.bind_some]
    cases h2 : cl u with
    | true => simp
    | false => simp [h1]
theorem cs_104_23 {ce : Nat → Int32} (ha : a < 4) (hc : ∀ o, o < 16 → en_w (ct a o)) : ∀ (k u f : Nat) (s : (Nat → Nat → Option Nat) × (Nat → Option Nat) × Nat) (M : am_M), u + k = 16 → k < f → (∀ h k t, h < 20 → s.1 h k = some t → t < 16) → (∀ o a, s.2.1 o = some a → a < 4) → cl_in M cl → cl_H M s.1 s.2.1 → cl_O M s.2.1 → cl_T M ct → cl_Q M s.1 q m → cl_C M s.2.1 ce → (∀ o, o < 16 → s.2.1 o = some a → cl o = false → ct a o = 0 → (∀ b k, b < 4 → s.1 (16 + b) k ≠ some o) ∧ ∀ i, i < m → s.1 21 i ≠ some o) → ∃ M', fd_104_23 f (nI a) (nI s.2.2) (nI u) M = fd_104_80 1000 (nI a) (nI (ab_fs cl ct a k u s).2.2) 0 M' ∧ cl_in M' cl ∧ cl_H M' (ab_fs cl ct a k u s).1 (ab_fs cl ct a k u s).2.1 ∧ cl_O M' (ab_fs cl ct a k u s).2.1 ∧ cl_T M' ct ∧ cl_Q M' (ab_fs cl ct a k u s).1 q m ∧ cl_C M' (ab_fs cl ct a k u s).2.1 ce ∧ fr_ [80, 82] M M'
  | _, _, 0, _, _, _, hf, _, _, _, _, _, _, _, _, _ => by omega
  | 0, u, f + 1, s, M, hu, _, hw, ho, hI, hH, hO, hT, hQ, hC, hn => by
    refine ⟨M, ?_, hI, hH, hO, hT, hQ, hC, fr_refl _ _⟩
    rw [un_104_23]
    simp (disch := omega) only [pu_y16]
    rfl
  | k + 1, u, f + 1, s, M, hu, hf, hw, ho, hI, hH, hO, hT, hQ, hC, hn => by
    rw [un_104_23]
    simp (disch := omega) only [pu_x16]
    unfold fd_104_72
    rw [nI_1, nI_1, cs_106 ho hO hI (show u < 16 by omega), Option.bind_some]
    have e80 : M 80 u = nI a ↔ s.2.1 u = some a := by rw [hO u (by omega)]; exact en_o_nI (by omega) (ow_lt ho u)
    have e83 : M 83 (a * 16 + u) = 0 ↔ ct a u = 0 := by rw [hT a u ha (by omega)]; exact en_0 _ (hc u (by omega))
    have skip : ¬ (s.2.1 u = some a ∧ cl u = false ∧ ct a u = 0) → ∃ M', fd_104_23 f (nI a) (nI s.2.2) (nI (u + 1)) M = fd_104_80 1000 (nI a) (nI (ab_fs cl ct a (k + 1) u s).2.2) 0 M' ∧ cl_in M' cl ∧ cl_H M' (ab_fs cl ct a (k + 1) u s).1 (ab_fs cl ct a (k + 1) u s).2.1 ∧ cl_O M' (ab_fs cl ct a (k + 1) u s).2.1 ∧ cl_T M' ct ∧ cl_Q M' (ab_fs cl ct a (k + 1) u s).1 q m ∧ cl_C M' (ab_fs cl ct a (k + 1) u s).2.1 ce ∧ fr_ [80, 82] M M' := by
      intro hs
      rw [ab_fs, if_neg hs]
      exact cs_104_23 ha hc k (u + 1) f s M (by omega) (by omega) hw ho hI hH hO hT hQ hC hn
    by_cases h12 : s.2.1 u ≠ none ∧ cl u = false
    · simp only [if_pos h12, if_neg pu_10]
      rw [sp_81 (show u < 16 by omega), Option.bind_some]
      by_cases h1 : s.2.1 u = some a
      · simp only [if_pos (e80.mpr h1)]
        rw [sp_101 ha (show u < 16 by omega), Option.bind_some]
        by_cases h3 : ct a u = 0
        · simp only [if_pos (e83.mpr h3)]
          obtain ⟨n1, n2⟩ := hn u (by omega) h1 h12.2 h3
          obtain ⟨N1, g1, g2, g3, g4, g5, g6⟩ := cs_108 hw (show u < 16 by omega) hH hO hQ hC n1 n2
          rw [g1, Option.bind_some, ab_fs, if_pos ⟨h1, h12.2, h3⟩]
          obtain ⟨N2, k1, k2, k3, k4, k5, k6, k7, k8⟩ := cs_104_23 ha hc k (u + 1) f (ab_fpl u s.1, ab_fow u s.2.1, s.2.2 + 1) N1 (by omega) (by omega) (fun h k t hh ht => hw h k t hh (ab_fpl_le ht)) (fun o a h => ho o a (ab_fow_le h)) (fun o h => by rw [g6 90 (by decide)]; exact hI o h) g2 g3 (cl_T_f hT (g6 83 (by decide))) g4 g5 (fun o h16 g1 g2 g3 => by
            obtain ⟨m1, m2⟩ := hn o h16 (ab_fow_le g1) g2 g3
            exact ⟨fun b k hb h => m1 b k hb (ab_fpl_le h), fun i hi h => m2 i hi (ab_fpl_le h)⟩)
          exact ⟨N2, k1, k2, k3, k4, k5, k6, k7, fr_tr g6 k8⟩
        · simp only [if_neg (fun e => h3 (e83.mp e))]; exact skip (fun h => h3 h.2.2)
      · simp only [if_neg (fun e => h1 (e80.mp e))]; exact skip (fun h => h1 h.1)
    · simp only [if_neg h12, if_true]
      refine skip (fun h => h12 ⟨by rw [h.1]; simp, h.2.1⟩)
end
