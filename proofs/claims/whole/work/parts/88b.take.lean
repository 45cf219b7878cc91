/-! The front of a queue: found, and taken away -/
def ab_rpl (r : Nat) (pl : Nat → Nat → Option Nat) : Nat → Nat → Option Nat := fun h k => if h = 21 ∧ r ≤ k then pl 21 (k + 1) else pl h k
theorem ab_rpl_ge {r i : Nat} {pl : Nat → Nat → Option Nat} (h : r ≤ i) : ab_rpl r pl 21 i = pl 21 (i + 1) := if_pos ⟨rfl, h⟩
theorem ab_rpl_lt {r i : Nat} {pl : Nat → Nat → Option Nat} (h : i < r) : ab_rpl r pl 21 i = pl 21 i := if_neg (by omega)
section
variable {N M : am_M} {pl : Nat → Nat → Option Nat} {ow : Nat → Option Nat} {ct : Nat → Nat → Int} {q : ct_Q} {m a r : Nat} {cl : Nat → Bool}
theorem rs_156_2 (ha : a < 4) (hQ : rf_Q N pl q m) (hto : ∀ i, i < m → (q i).2.1 < 4) : ∀ (k u f : Nat), u + k = m → k < f → (∀ r, u ≤ r → r < m → (∀ i, u ≤ i → i < r → (q i).2.1 ≠ a) → (q r).2.1 = a → fd_156_2 f (nI a) (nI u) N = fd_156_26 (nI a) (nI r) N) ∧ ((∀ i, u ≤ i → i < m → (q i).2.1 ≠ a) → fd_156_2 f (nI a) (nI u) N = fd_156_26 (nI a) (nI m) N)
  | _, _, 0, _, hf => by omega
  | 0, u, f + 1, hu, _ => by
    have e : u = m := by omega
    subst e
    have h20 := hQ.2.1
    rw [un_156_2, hQ.1, pu_end (Nat.le_refl _) (by omega)]
    exact ⟨fun r h1 h2 => by omega, fun _ => rfl⟩
  | k + 1, u, f + 1, hu, hf => by
    have ih := rs_156_2 ha hQ hto k (u + 1) f (by omega) (by omega)
    have h20 := hQ.2.1
    rw [un_156_2, hQ.1, pu_go (show u < m by omega) (by omega)]
    simp (disch := omega) only [pu_cl, pu_g2]
    have et : N 109 u = nI a ↔ (q u).2.1 = a := by
      rw [(hQ.2.2 u (by omega)).2.1]; exact en_nI (by have := hto u (by omega); omega) (by omega)
    rw [nI_1]
    refine ⟨fun r h1 h2 h3 h4 => ?_, fun h => ?_⟩
    · by_cases e : r = u
      · subst e; rw [if_pos (et.mpr h4)]
      · rw [if_neg (fun h => h3 u (Nat.le_refl _) (by omega) (et.mp h))]
        exact ih.1 r (by omega) h2 (fun i g1 g2 => h3 i (by omega) g2) h4
    · rw [if_neg (fun g => h u (Nat.le_refl _) (by omega) (et.mp g))]
      exact ih.2 (fun i g1 g2 => h i (by omega) g2)
theorem cs_69_2 (ha : a < 4) (hQ : cl_Q M pl q m) (hto : ∀ i, i < m → (q i).2.1 < 4) : ∀ (k u f : Nat), u + k = m → k < f → (∀ r, u ≤ r → r < m → (∀ i, u ≤ i → i < r → (q i).2.1 ≠ a) → (q r).2.1 = a → fd_69_2 f (nI a) (nI u) M = some (nI r, M)) ∧ ((∀ i, u ≤ i → i < m → (q i).2.1 ≠ a) → fd_69_2 f (nI a) (nI u) M = some (-1, M))
  | _, _, 0, _, hf => by omega
  | 0, u, f + 1, hu, _ => by
    have e : u = m := by omega
    subst e
    have h20 := hQ.2.1
    rw [un_69_2, hQ.1, pu_end (Nat.le_refl _) (by omega)]
    exact ⟨fun r h1 h2 => by omega, fun _ => rfl⟩
  | k + 1, u, f + 1, hu, hf => by
    have ih := cs_69_2 ha hQ hto k (u + 1) f (by omega) (by omega)
    have h20 := hQ.2.1
    rw [un_69_2, hQ.1, pu_go (show u < m by omega) (by omega)]
    simp (disch := omega) only [pu_cl, pu_g2]
    have et : M 86 u = nI a ↔ (q u).2.1 = a := by
      rw [(hQ.2.2 u (by omega)).2.1]; exact en_nI (by have := hto u (by omega); omega) (by omega)
    rw [nI_1]
    refine ⟨fun r h1 h2 h3 h4 => ?_, fun h => ?_⟩
    · by_cases e : r = u
      · subst e; rw [if_pos (et.mpr h4)]
      · rw [if_neg (fun h => h3 u (Nat.le_refl _) (by omega) (et.mp h))]
        exact ih.1 r (by omega) h2 (fun i g1 g2 => h3 i (by omega) g2) h4
    · rw [if_neg (fun g => h u (Nat.le_refl _) (by omega) (et.mp g))]
      exact ih.2 (fun i g1 g2 => h i (by omega) g2)
/-- forget: the rows shift -/
theorem rs_157_2 {m : Nat} (hm : m ≤ 20) : ∀ (k j f : Nat) (N : am_M), j + k + 1 = m → k < f → N 96 15 = nI m → ∃ N', fd_157_2 f (nI j) N = some N' ∧ N' 96 15 = nI (m - 1) ∧ (∀ h, h = 108 ∨ h = 109 ∨ h = 110 ∨ h = 111 → ∀ i, N' h i = if j ≤ i ∧ i + 1 < m then N h (i + 1) else N h i) ∧ fr_ [96, 108, 109, 110, 111] N N' ∧ fs_ [15] N N'
  | _, _, 0, _, _, hf, _ => by omega
  | 0, j, f + 1, N, hj, _, hs => by
    rw [un_157_2, nI_1, hs, pu_end (by omega) (by omega)]
    refine ⟨_, rfl, ?_, fun h hh i => ?_, fr_w (fr_refl _ _) (by decide), fs_w (fs_refl _ _) (by simp)⟩
    · rw [dw_s]; exact pk_sub (a := m) (b := 1) (by omega)
    · rw [dw_r _ _ _ (by omega), if_neg (by omega)]
  | k + 1, j, f + 1, N, hj, hf, hs => by
    rw [un_157_2, nI_1, hs, pu_go (by omega) (by omega)]
    simp (disch := omega) only [pu_cl, pu_g2]
    obtain ⟨N', e1, e2, e3, e4, e5⟩ := rs_157_2 hm k (j + 1) f (ds_w (ds_w (ds_w (ds_w N 108 j (N 108 (j + 1))) 109 j (N 109 (j + 1))) 110 j (N 110 (j + 1))) 111 j (N 111 (j + 1))) (by omega) (by omega) (by simp only [dw_x]; simp; exact hs)
    refine ⟨N', e1, e2, fun h hh i => ?_, fr_tr (fr_w (fr_w (fr_w (fr_w (fr_refl _ _) (by decide)) (by decide)) (by decide)) (by decide)) e4, fs_tr (fs_w (fs_w (fs_w (fs_w (fs_refl _ _) (by simp)) (by simp)) (by simp)) (by simp)) e5⟩
    rw [e3 h hh i]
    by_cases c1 : j + 1 ≤ i ∧ i + 1 < m
    · rw [if_pos c1, if_pos ⟨by omega, c1.2⟩]
      have n1 : i + 1 ≠ j := by omega
      simp only [dw_x]
      simp [n1]
    · rw [if_neg c1]
      by_cases c2 : i = j
      · subst c2
        rw [if_pos ⟨Nat.le_refl _, by omega⟩]
        simp only [dw_x]
        rcases hh with rfl | rfl | rfl | rfl <;> simp
      · rw [if_neg (by omega)]
        simp only [dw_x]
        simp [c2]
theorem rs_157 (hQ : rf_Q N pl q m) (hr : r < m) : ∃ N', fd_157 (nI r) N = some N' ∧ rf_Q N' (ab_rpl r pl) (ct_rm q r) (m - 1) ∧ fr_ [96, 108, 109, 110, 111] N N' ∧ fs_ [15] N N' := by
  have h20 := hQ.2.1
  obtain ⟨N', e1, e2, e3, e4, e5⟩ := rs_157_2 h20 (m - 1 - r) r 1000 N (by omega) (by omega) hQ.1
  refine ⟨N', e1, ⟨e2, by omega, fun i hi => ?_⟩, e4, e5⟩
  rw [e3 108 (by omega), e3 109 (by omega), e3 110 (by omega), e3 111 (by omega)]
  by_cases c : r ≤ i
  · simp only [if_pos (show r ≤ i ∧ i + 1 < m from ⟨c, by omega⟩), ab_rpl_ge c, ct_rm_ge c]
    exact hQ.2.2 (i + 1) (by omega)
  · simp only [if_neg (show ¬ (r ≤ i ∧ i + 1 < m) from fun h => c h.1), ab_rpl_lt (show i < r by omega), ct_rm_lt (show i < r by omega)]
    exact hQ.2.2 i (by omega)
theorem dc_r (M : am_M) {a b sp dp n h : Nat} (hh : h ≠ b) : ds_c M a b sp dp n h = M h := am_set_n _ _ hh
theorem dc_s (M : am_M) {a b sp dp n i : Nat} : ds_c M a b sp dp n b i = if dp ≤ i ∧ i < dp + n then M a (sp + (i - dp)) else M b i := by unfold ds_c; rw [am_set_s]; rfl
theorem cs_73 (hQ : cl_Q M pl q m) (hr : r < m) : ∃ M', fd_73 (nI r) M = some M' ∧ cl_Q M' (ab_rpl r pl) (ct_rm q r) (m - 1) ∧ fr_ [84, 85, 86, 87, 88] M M' := by
  have h20 := hQ.2.1
  have g1 : ¬ (nI (r + 1) < 0 ∨ nI r < 0 ∨ nI (m - 1 - r) < 0 ∨ 20 < (r + 1) + (m - 1 - r) ∨ 20 < r + (m - 1 - r)) := by
    rintro (h | h | h | h | h)
    · exact pu_pos (by omega) h
    · exact pu_pos (by omega) h
    · exact pu_pos (by omega) h
    · omega
    · omega
  have e : fd_73 (nI r) M = some (ds_c (ds_c (ds_c (ds_c (ds_w M 84 4 (nI (m - 1))) 85 85 (r + 1) r (m - 1 - r)) 86 86 (r + 1) r (m - 1 - r)) 87 87 (r + 1) r (m - 1 - r)) 88 88 (r + 1) r (m - 1 - r)) := by
    unfold fd_73
    rw [hQ.1, nI_1, show nI m - (1 : Int32) = nI (m - 1) from pk_sub (a := m) (b := 1) (by omega)]
    simp (disch := omega) only [dc_r, dw_s, pk_sub, pu_cl]
    simp only [if_neg g1]
  refine ⟨_, e, ⟨?_, by omega, fun i hi => ?_⟩, fun h hh => ?_⟩
  · simp (disch := omega) only [dc_r, dw_s]
  · have d85 : ∀ i, (ds_c (ds_c (ds_c (ds_c (ds_w M 84 4 (nI (m - 1))) 85 85 (r + 1) r (m - 1 - r)) 86 86 (r + 1) r (m - 1 - r)) 87 87 (r + 1) r (m - 1 - r)) 88 88 (r + 1) r (m - 1 - r)) 85 i = if r ≤ i ∧ i < r + (m - 1 - r) then M 85 (r + 1 + (i - r)) else M 85 i := by
      intro i; simp (disch := omega) only [dc_r, dc_s, dw_r]
    have d86 : ∀ i, (ds_c (ds_c (ds_c (ds_c (ds_w M 84 4 (nI (m - 1))) 85 85 (r + 1) r (m - 1 - r)) 86 86 (r + 1) r (m - 1 - r)) 87 87 (r + 1) r (m - 1 - r)) 88 88 (r + 1) r (m - 1 - r)) 86 i = if r ≤ i ∧ i < r + (m - 1 - r) then M 86 (r + 1 + (i - r)) else M 86 i := by
      intro i; simp (disch := omega) only [dc_r, dc_s, dw_r]
    have d87 : ∀ i, (ds_c (ds_c (ds_c (ds_c (ds_w M 84 4 (nI (m - 1))) 85 85 (r + 1) r (m - 1 - r)) 86 86 (r + 1) r (m - 1 - r)) 87 87 (r + 1) r (m - 1 - r)) 88 88 (r + 1) r (m - 1 - r)) 87 i = if r ≤ i ∧ i < r + (m - 1 - r) then M 87 (r + 1 + (i - r)) else M 87 i := by
      intro i; simp (disch := omega) only [dc_r, dc_s, dw_r]
    have d88 : ∀ i, (ds_c (ds_c (ds_c (ds_c (ds_w M 84 4 (nI (m - 1))) 85 85 (r + 1) r (m - 1 - r)) 86 86 (r + 1) r (m - 1 - r)) 87 87 (r + 1) r (m - 1 - r)) 88 88 (r + 1) r (m - 1 - r)) 88 i = if r ≤ i ∧ i < r + (m - 1 - r) then M 88 (r + 1 + (i - r)) else M 88 i := by
      intro i; simp (disch := omega) only [dc_r, dc_s, dw_r]
    rw [d85, d86, d87, d88]
    by_cases c : r ≤ i
    · simp only [if_pos (show r ≤ i ∧ i < r + (m - 1 - r) from ⟨c, by omega⟩), ab_rpl_ge c, ct_rm_ge c, show r + 1 + (i - r) = i + 1 by omega]
      exact hQ.2.2 (i + 1) (by omega)
    · simp only [if_neg (show ¬ (r ≤ i ∧ i < r + (m - 1 - r)) from fun h => c h.1), ab_rpl_lt (show i < r by omega), ct_rm_lt (show i < r by omega)]
      exact hQ.2.2 i (by omega)
  · have h' : h ≠ 84 ∧ h ≠ 85 ∧ h ≠ 86 ∧ h ≠ 87 ∧ h ≠ 88 := by simp at hh; omega
    rw [dc_r _ h'.2.2.2.2, dc_r _ h'.2.2.2.1, dc_r _ h'.2.2.1, dc_r _ h'.2.1, dw_r _ _ _ h'.1]
/-- counts when a call is taken -/
def ab_tk (cl : Nat → Bool) (ow : Nat → Option Nat) (a : Nat) (ct : Nat → Nat → Int) : Nat → Nat → Int := fun b o => if b = a ∧ o < 16 ∧ cl o = true then ct b o + (if ow o = some a then -1 else 1) else ct b o
/-- .. from u on -/
def ab_tu (u : Nat) (cl : Nat → Bool) (ow : Nat → Option Nat) (a : Nat) (ct : Nat → Nat → Int) : Nat → Nat → Int := fun b o => if b = a ∧ u ≤ o ∧ o < 16 ∧ cl o = true then ct b o + (if ow o = some a then -1 else 1) else ct b o
theorem ab_tu_s {u : Nat} (hu : u < 16) (h : cl u = true) : ab_tu (u + 1) cl ow a (gh_u ct a u (ct a u + (if ow u = some a then -1 else 1))) = ab_tu u cl ow a ct := by
  funext b o
  unfold ab_tu
  by_cases e : b = a ∧ o = u
  · obtain ⟨rfl, rfl⟩ := e
    rw [if_neg (by omega), gh_u_s]
    exact (if_pos ⟨rfl, Nat.le_refl _, hu, h⟩).symm
  · rw [gh_u_n _ _ e]
    by_cases c : b = a ∧ u ≤ o ∧ o < 16 ∧ cl o = true
    · rw [if_pos c, if_pos ⟨c.1, by omega, c.2.2.1, c.2.2.2⟩]
    · rw [if_neg c, if_neg (fun g => c ⟨g.1, by omega, g.2.2.1, g.2.2.2⟩)]
theorem ab_tu_n {u : Nat} (h : ¬ cl u = true) : ab_tu (u + 1) cl ow a ct = ab_tu u cl ow a ct := by
  funext b o
  unfold ab_tu
  by_cases c : b = a ∧ u ≤ o ∧ o < 16 ∧ cl o = true
  · have : o ≠ u := by rintro rfl; exact h c.2.2.2
    rw [if_pos c, if_pos ⟨c.1, by omega, c.2.2.1, c.2.2.2⟩]
  · rw [if_neg c, if_neg (fun g => c ⟨g.1, by omega, g.2.2.1, g.2.2.2⟩)]
theorem rs_156_138 (hw : ∀ o a, ow o = some a → a < 4) (ha : a < 4) (x4 x5 : Int32) : ∀ (k u f : Nat) (ct : Nat → Nat → Int) (N : am_M), u + k = 16 → k < f → rf_O N ow → rf_in N cl → rf_T N ct → ∃ N', fd_156_138 f (nI a) x4 x5 (nI u) N = fd_156_195 1000 (nI a) x4 x5 0 N' ∧ rf_T N' (ab_tu u cl ow a ct) ∧ fr_ [100] N N'
  | _, _, 0, _, _, _, hf, _, _, _ => by omega
  | 0, u, f + 1, ct, N, hu, _, hO, hI, hT => by
    refine ⟨N, ?_, ?_, fr_refl _ _⟩
    · rw [un_156_138]
      simp (disch := omega) only [pu_y16]
    · intro b o hb ho; unfold ab_tu; rw [if_neg (by omega)]; exact hT b o hb ho
  | k + 1, u, f + 1, ct, N, hu, hf, hO, hI, hT => by
    rw [un_156_138]
    simp (disch := omega) only [pu_x16, pu_16, pu_cl, pu_g2]
    rw [hI u (by omega)]
    by_cases h : cl u = true
    · rw [if_pos h, if_neg pu_10]
      have e97 : N 97 u = nI a ↔ ow u = some a := by rw [hO u (by omega)]; exact en_o_nI (by omega) (ow_lt hw u)
      unfold fd_156_184 fd_156_186
      simp (disch := omega) only [pu_cl, pu_g2]
      rw [hT a u ha (by omega), nI_1]
      have st : ∀ w : Int, w = (if ow u = some a then -1 else 1) → ∃ N', fd_156_138 f (nI a) x4 x5 (nI (u + 1)) (ds_w N 100 (16 * a + u) (en_i (ct a u) + en_i w)) = fd_156_195 1000 (nI a) x4 x5 0 N' ∧ rf_T N' (ab_tu u cl ow a ct) ∧ fr_ [100] N N' := by
        intro w hw'
        obtain ⟨N', e1, e2, e3⟩ := rs_156_138 hw ha x4 x5 k (u + 1) f (gh_u ct a u (ct a u + w)) (ds_w N 100 (16 * a + u) (en_i (ct a u) + en_i w)) (by omega) (by omega) (rf_O_f hO (dw_r _ _ _ (by decide))) (fun o ho => by rw [dw_r _ _ _ (by decide)]; exact hI o ho) (by rw [← en_i_add]; exact rf_T_w hT ha (by omega) _)
        refine ⟨N', e1, ?_, fr_tr (fr_w (fr_refl _ _) (by decide)) e3⟩
        rw [hw', ab_tu_s (by omega) h] at e2; exact e2
      by_cases h1 : ow u = some a
      · rw [if_pos (e97.mpr h1), show (-1 : Int32) = en_i (-1) from by decide]; exact st (-1) (by rw [if_pos h1])
      · rw [if_neg (fun e => h1 (e97.mp e)), show (1 : Int32) = en_i 1 from by decide]; exact st 1 (by rw [if_neg h1])
    · rw [if_neg h, if_pos rfl]
      unfold fd_156_186
      rw [nI_1]
      obtain ⟨N', e1, e2, e3⟩ := rs_156_138 hw ha x4 x5 k (u + 1) f ct N (by omega) (by omega) hO hI hT
      rw [ab_tu_n h] at e2
      exact ⟨N', e1, e2, e3⟩
theorem cs_74_26 (hw : ∀ o a, ow o = some a → a < 4) (ha : a < 4) : ∀ (k u f : Nat) (ct : Nat → Nat → Int) (M : am_M), u + k = 16 → k < f → cl_O M ow → cl_in M cl → cl_T M ct → ∃ M', fd_74_26 f (nI a) (nI u) M = some M' ∧ cl_T M' (ab_tu u cl ow a ct) ∧ fr_ [83] M M'
  | _, _, 0, _, _, _, hf, _, _, _ => by omega
  | 0, u, f + 1, ct, M, hu, _, hO, hI, hT => by
    refine ⟨M, ?_, ?_, fr_refl _ _⟩
    · rw [un_74_26]
      simp (disch := omega) only [pu_y16]
    · intro b o hb ho; unfold ab_tu; rw [if_neg (by omega)]; exact hT b o hb ho
  | k + 1, u, f + 1, ct, M, hu, hf, hO, hI, hT => by
    rw [un_74_26]
    simp (disch := omega) only [pu_x16]
    rw [cs_80 hI (show u < 16 by omega), Option.bind_some]
    by_cases h : cl u = true
    · simp only [if_pos h, if_neg pu_10]
      have e80 : M 80 u = nI a ↔ ow u = some a := by rw [hO u (by omega)]; exact en_o_nI (by omega) (ow_lt hw u)
      rw [sp_81 (show u < 16 by omega), Option.bind_some]
      unfold fd_74_70 fd_74_73
      rw [nI_1]
      have st : ∀ w : Int, w = (if ow u = some a then -1 else 1) → ∃ M', ((fd_82 (nI a) (nI u) (en_i w) M).bind fun q1 => fd_74_26 f (nI a) (nI (u + 1)) q1) = some M' ∧ cl_T M' (ab_tu u cl ow a ct) ∧ fr_ [83] M M' := by
        intro w hw'
        obtain ⟨M1, g1, g2, g3⟩ := cs_82 ha (show u < 16 by omega) hT (v := en_i w) rfl
        rw [g1, Option.bind_some]
        obtain ⟨N', e1, e2, e3⟩ := cs_74_26 hw ha k (u + 1) f (gh_u ct a u (ct a u + w)) M1 (by omega) (by omega) (cl_O_f hO (g3 80 (by decide))) (fun o ho => by rw [g3 90 (by decide)]; exact hI o ho) g2
        refine ⟨N', e1, ?_, fr_tr g3 e3⟩
        rw [hw', ab_tu_s (by omega) h] at e2; exact e2
      by_cases h1 : ow u = some a
      · rw [if_pos (e80.mpr h1), show (-1 : Int32) = en_i (-1) from by decide]; exact st (-1) (by rw [if_pos h1])
      · rw [if_neg (fun e => h1 (e80.mp e)), show (1 : Int32) = en_i 1 from by decide]; exact st 1 (by rw [if_neg h1])
    · simp only [if_neg h, if_true]
      unfold fd_74_73
      rw [nI_1]
      obtain ⟨N', e1, e2, e3⟩ := cs_74_26 hw ha k (u + 1) f ct M (by omega) (by omega) hO hI hT
      rw [ab_tu_n h] at e2
      exact ⟨N', e1, e2, e3⟩
end
