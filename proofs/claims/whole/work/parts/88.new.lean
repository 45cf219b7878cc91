/-! NEW on both sides -/
def rf_C (N : am_M) (ce : Nat → Int32) : Prop := ∀ o, o < 16 → N 98 o = ce o
def cl_C (M : am_M) (ow : Nat → Option Nat) (ce : Nat → Int32) : Prop := ∀ o, o < 16 → ow o ≠ none → M 81 o = ce o
section
variable {N M : am_M} {pl : Nat → Nat → Option Nat} {ow : Nat → Option Nat} {ct : Nat → Nat → Int} {ce : Nat → Int32} {a o : Nat}
theorem rs_162_84 (ho : o < 16) : ∀ (k j f : Nat) (N : am_M), j + k = 4 → k < f → ∃ N', fd_162_84 f (nI o) (nI j) N = some (nI o, N') ∧ (∀ b, j ≤ b → b < 4 → N' 100 (16 * b + o) = 0) ∧ (∀ i, (∀ b, j ≤ b → b < 4 → i ≠ 16 * b + o) → N' 100 i = N 100 i) ∧ fr_ [100] N N'
  | _, _, 0, _, _, hf => by omega
  | 0, j, f + 1, N, hj, _ => by
    refine ⟨N, ?_, fun b h1 h2 => by omega, fun i _ => rfl, fr_refl _ _⟩
    rw [un_162_84]
    simp (disch := omega) only [pu_y4]
  | k + 1, j, f + 1, N, hj, hf => by
    rw [un_162_84]
    simp (disch := omega) only [pu_x4, pu_16, pu_cl, pu_g2]
    rw [nI_1]
    obtain ⟨N', e1, e2, e3, e4⟩ := rs_162_84 ho k (j + 1) f (ds_w N 100 (16 * j + o) 0) (by omega) (by omega)
    refine ⟨N', e1, fun b h1 h2 => ?_, fun i hi => ?_, fr_tr (fr_w (fr_refl _ _) (by decide)) e4⟩
    · by_cases e : b = j
      · subst e; rw [e3 _ (fun c h1 h2 => by omega), dw_s]
      · exact e2 b (by omega) h2
    · rw [e3 i (fun b h1 h2 => hi b (by omega) h2), dw_n _ _ (hi j (Nat.le_refl _) (by omega))]
theorem rs_162_58 (ho : o < 16) : ∀ (k j f : Nat) (N : am_M), j + k = 6 → k < f → ∃ N', fd_162_58 f (nI o) (nI j) N = fd_162_84 1000 (nI o) 0 N' ∧ (∀ b, j ≤ b → b < 6 → N' 99 (6 * o + b) = -1) ∧ (∀ i, (∀ b, j ≤ b → b < 6 → i ≠ 6 * o + b) → N' 99 i = N 99 i) ∧ fr_ [99] N N'
  | _, _, 0, _, _, hf => by omega
  | 0, j, f + 1, N, hj, _ => by
    refine ⟨N, ?_, fun b h1 h2 => by omega, fun i _ => rfl, fr_refl _ _⟩
    rw [un_162_58]
    simp (disch := omega) only [pu_y6]
  | k + 1, j, f + 1, N, hj, hf => by
    rw [un_162_58]
    simp (disch := omega) only [pu_x6, pu_6, pu_cl, pu_g2]
    rw [nI_1]
    obtain ⟨N', e1, e2, e3, e4⟩ := rs_162_58 ho k (j + 1) f (ds_w N 99 (6 * o + j) (-1)) (by omega) (by omega)
    refine ⟨N', e1, fun b h1 h2 => ?_, fun i hi => ?_, fr_tr (fr_w (fr_refl _ _) (by decide)) e4⟩
    · by_cases e : b = j
      · subst e; rw [e3 _ (fun c h1 h2 => by omega), dw_s]
      · exact e2 b (by omega) h2
    · rw [e3 i (fun b h1 h2 => hi b (by omega) h2), dw_n _ _ (hi j (Nat.le_refl _) (by omega))]
theorem cs_88_30 (ho : o < 16) : ∀ (k j f : Nat) (N : am_M), j + k = 4 → k < f → ∃ N', fd_88_30 f (nI o) (nI j) N = some N' ∧ (∀ b, j ≤ b → b < 4 → N' 83 (b * 16 + o) = 0) ∧ (∀ i, (∀ b, j ≤ b → b < 4 → i ≠ b * 16 + o) → N' 83 i = N 83 i) ∧ fr_ [83] N N'
  | _, _, 0, _, _, hf => by omega
  | 0, j, f + 1, N, hj, _ => by
    refine ⟨N, ?_, fun b h1 h2 => by omega, fun i _ => rfl, fr_refl _ _⟩
    rw [un_88_30]
    simp (disch := omega) only [pu_y4]
  | k + 1, j, f + 1, N, hj, hf => by
    rw [un_88_30]
    simp (disch := omega) only [pu_x4, pu_16', pu_cl, pu_g2]
    rw [nI_1]
    obtain ⟨N', e1, e2, e3, e4⟩ := cs_88_30 ho k (j + 1) f (ds_w N 83 (j * 16 + o) 0) (by omega) (by omega)
    refine ⟨N', e1, fun b h1 h2 => ?_, fun i hi => ?_, fr_tr (fr_w (fr_refl _ _) (by decide)) e4⟩
    · by_cases e : b = j
      · subst e; rw [e3 _ (fun c h1 h2 => by omega), dw_s]
      · exact e2 b (by omega) h2
    · rw [e3 i (fun b h1 h2 => hi b (by omega) h2), dw_n _ _ (hi j (Nat.le_refl _) (by omega))]
theorem cs_89 {h k : Nat} (hh : h < 20) (hk : k < 6) (v : Int32) (M : am_M) : fd_89 (nI h) (nI k) v M = some (ds_w M 82 (h * 6 + k) v) := by
  unfold fd_89
  simp (disch := omega) only [pu_6', pu_cl, pu_g2]
theorem cs_88_9 (ho : o < 16) : ∀ (k j f : Nat) (N : am_M), j + k = 6 → k < f → ∃ N', fd_88_9 f (nI o) (nI j) N = fd_88_30 1000 (nI o) 0 N' ∧ (∀ b, j ≤ b → b < 6 → N' 82 (o * 6 + b) = -1) ∧ (∀ i, (∀ b, j ≤ b → b < 6 → i ≠ o * 6 + b) → N' 82 i = N 82 i) ∧ fr_ [82] N N'
  | _, _, 0, _, _, hf => by omega
  | 0, j, f + 1, N, hj, _ => by
    refine ⟨N, ?_, fun b h1 h2 => by omega, fun i _ => rfl, fr_refl _ _⟩
    rw [un_88_9]
    simp (disch := omega) only [pu_y6]
  | k + 1, j, f + 1, N, hj, hf => by
    rw [un_88_9]
    simp (disch := omega) only [pu_x6]
    rw [cs_89 (show o < 20 by omega) (show j < 6 by omega), Option.bind_some, nI_1]
    obtain ⟨N', e1, e2, e3, e4⟩ := cs_88_9 ho k (j + 1) f (ds_w N 82 (o * 6 + j) (-1)) (by omega) (by omega)
    refine ⟨N', e1, fun b h1 h2 => ?_, fun i hi => ?_, fr_tr (fr_w (fr_refl _ _) (by decide)) e4⟩
    · by_cases e : b = j
      · subst e; rw [e3 _ (fun c h1 h2 => by omega), dw_s]
      · exact e2 b (by omega) h2
    · rw [e3 i (fun b h1 h2 => hi b (by omega) h2), dw_n _ _ (hi j (Nat.le_refl _) (by omega))]
/-- the state behind NEW -/
def ab_npl (o : Nat) (pl : Nat → Nat → Option Nat) : Nat → Nat → Option Nat := fun h k => if h = o then none else pl h k
def ab_now (o a : Nat) (ow : Nat → Option Nat) : Nat → Option Nat := fun u => if u = o then some a else ow u
def ab_nct (o : Nat) (ct : Nat → Nat → Int) : Nat → Nat → Int := fun b u => if u = o then 0 else ct b u
def ab_nce (o : Nat) (ce : Nat → Int32) : Nat → Int32 := fun u => if u = o then 0 else ce u
theorem rs_162_2 (hw : ∀ o a, ow o = some a → a < 4) (hO : rf_O N ow) : ∀ (k u f : Nat), u + k = 16 → k < f → (∀ o, o < 16 → (∀ j, u ≤ j → j < o → ow j ≠ none) → u ≤ o → ow o = none → fd_162_2 f (nI a) (nI u) N = fd_162_24 (nI a) (nI o) N) ∧ ((∀ j, u ≤ j → j < 16 → ow j ≠ none) → fd_162_2 f (nI a) (nI u) N = fd_162_24 (nI a) (nI 16) N)
  | _, _, 0, _, hf => by omega
  | 0, u, f + 1, hu, _ => by
    have e : u = 16 := by omega
    subst e
    rw [un_162_2]
    simp (disch := omega) only [pu_y16]
    exact ⟨fun o ho _ h _ => by omega, fun _ => trivial⟩
  | k + 1, u, f + 1, hu, hf => by
    have ih := rs_162_2 hw hO k (u + 1) f (by omega) (by omega)
    rw [un_162_2]
    simp (disch := omega) only [pu_x16, pu_cl, pu_g2]
    have e97 : N 97 u = -1 ↔ ow u = none := by rw [hO u (by omega)]; exact en_o_m1 (ow_lt hw u)
    rw [nI_1]
    refine ⟨fun o ho hj huo hn => ?_, fun hj => ?_⟩
    · by_cases e : o = u
      · subst e; rw [if_pos (e97.mpr hn)]
      · rw [if_neg (fun h => hj u (Nat.le_refl _) (by omega) (e97.mp h))]
        exact ih.1 o ho (fun j h1 h2 => hj j (by omega) h2) (by omega) hn
    · rw [if_neg (fun h => hj u (Nat.le_refl _) (by omega) (e97.mp h))]
      exact ih.2 (fun j h1 h2 => hj j (by omega) h2)
theorem rs_162 (hw : ∀ o a, ow o = some a → a < 4) (ha : a < 4) (hH : rf_H N pl) (hO : rf_O N ow) (hT : rf_T N ct) (hC : rf_C N ce) : (∀ o, o < 16 → (∀ j, j < o → ow j ≠ none) → ow o = none → ∃ N', fd_162 (nI a) N = some (nI o, N') ∧ rf_H N' (ab_npl o pl) ∧ rf_O N' (ab_now o a ow) ∧ rf_T N' (ab_nct o ct) ∧ rf_C N' (ab_nce o ce) ∧ fr_ [97, 98, 99, 100] N N') ∧ ((∀ j, j < 16 → ow j ≠ none) → fd_162 (nI a) N = some (-1, ds_w N 96 24 (N 96 24 + 1))) := by
  have st := rs_162_2 (a := a) hw hO 16 0 1000 rfl (by decide)
  refine ⟨fun o ho hj hn => ?_, fun hj => ?_⟩
  · have e0 : fd_162 (nI a) N = fd_162_24 (nI a) (nI o) N := st.1 o ho (fun j _ h => hj j h) (Nat.zero_le _) hn
    unfold fd_162_24 at e0
    rw [if_neg (show ¬ nI o = (16 : Int32) from fun e => by have := (en_nI (t := 16) (by omega) (by decide)).mp e; omega)] at e0
    simp (disch := omega) only [pu_cl, pu_g2] at e0
    obtain ⟨N1, f1, f2, f3, f4⟩ := rs_162_58 ho 6 0 1000 (ds_w (ds_w N 97 o (nI a)) 98 o 0) rfl (by decide)
    obtain ⟨N2, g1, g2, g3, g4⟩ := rs_162_84 ho 4 0 1000 N1 rfl (by decide)
    have hr : ∀ h, h ≠ 97 → h ≠ 98 → h ≠ 99 → h ≠ 100 → N2 h = N h := by
      intro h h1 h2 h3 h4
      rw [g4 h (by simpa using h4), f4 h (by simpa using h3), dw_r _ _ _ h2, dw_r _ _ _ h1]
    refine ⟨N2, by rw [e0]; exact f1.trans g1, ⟨fun h k hh hk => ?_, fun b k hb hk => ?_⟩, fun u hu => ?_, fun b u hb hu => ?_, fun u hu => ?_, fun h hh => hr h (by simp at hh; omega) (by simp at hh; omega) (by simp at hh; omega) (by simp at hh; omega)⟩
    · rw [g4 99 (by decide)]
      unfold ab_npl
      by_cases e : h = o
      · subst e; rw [if_pos rfl, f2 k (Nat.zero_le _) hk]; rfl
      · rw [if_neg e, f3 _ (fun b _ hb => by omega), dw_r _ _ _ (by decide), dw_r _ _ _ (by decide)]; exact hH.1 h k hh hk
    · rw [hr 101 (by decide) (by decide) (by decide) (by decide)]
      unfold ab_npl; rw [if_neg (by omega)]; exact hH.2 b k hb hk
    · rw [g4 97 (by decide), f4 97 (by decide), dw_r _ _ _ (by decide)]
      unfold ab_now
      by_cases e : u = o
      · subst e; rw [dw_s, if_pos rfl]; rfl
      · rw [dw_n _ _ e, if_neg e]; exact hO u hu
    · unfold ab_nct
      by_cases e : u = o
      · subst e; rw [if_pos rfl, g2 b (Nat.zero_le _) hb]; rfl
      · rw [if_neg e, g3 _ (fun c _ hc => by omega), f4 100 (by decide), dw_r _ _ _ (by decide), dw_r _ _ _ (by decide)]; exact hT b u hb hu
    · rw [g4 98 (by decide), f4 98 (by decide)]
      unfold ab_nce
      by_cases e : u = o
      · subst e; rw [dw_s, if_pos rfl]
      · rw [dw_n _ _ e, dw_r _ _ _ (by decide), if_neg e]; exact hC u hu
  · have e0 : fd_162 (nI a) N = fd_162_24 (nI a) (nI 16) N := st.2 (fun j _ h => hj j h)
    rw [e0]; unfold fd_162_24
    exact if_pos rfl
theorem cs_87_2 (hw : ∀ o a, ow o = some a → a < 4) (hO : cl_O M ow) : ∀ (k u f : Nat), u + k = 16 → k < f → (∀ o, o < 16 → (∀ j, u ≤ j → j < o → ow j ≠ none) → u ≤ o → ow o = none → fd_87_2 f (nI a) (nI u) M = (fd_88 (nI o) (ds_w M 80 o (nI a))).bind fun q5 => some (nI o, q5)) ∧ ((∀ j, u ≤ j → j < 16 → ow j ≠ none) → fd_87_2 f (nI a) (nI u) M = some (-1, M))
  | _, _, 0, _, hf => by omega
  | 0, u, f + 1, hu, _ => by
    have e : u = 16 := by omega
    subst e
    rw [un_87_2]
    simp (disch := omega) only [pu_y16]
    exact ⟨fun o ho _ h _ => by omega, fun _ => trivial⟩
  | k + 1, u, f + 1, hu, hf => by
    have ih := cs_87_2 hw hO k (u + 1) f (by omega) (by omega)
    rw [un_87_2]
    simp (disch := omega) only [pu_x16, pu_cl, pu_g2]
    have e80 : M 80 u = -1 ↔ ow u = none := by rw [hO u (by omega)]; exact en_o_m1 (ow_lt hw u)
    rw [nI_1]
    refine ⟨fun o ho hj huo hn => ?_, fun hj => ?_⟩
    · by_cases e : o = u
      · subst e; rw [if_pos (e80.mpr hn)]
      · rw [if_neg (fun h => hj u (Nat.le_refl _) (by omega) (e80.mp h))]
        exact ih.1 o ho (fun j h1 h2 => hj j (by omega) h2) (by omega) hn
    · rw [if_neg (fun h => hj u (Nat.le_refl _) (by omega) (e80.mp h))]
      exact ih.2 (fun j h1 h2 => hj j (by omega) h2)
theorem cs_86 (hw : ∀ o a, ow o = some a → a < 4) (ha : a < 4) (hH : cl_H M pl ow) (hO : cl_O M ow) (hT : cl_T M ct) (hC : cl_C M ow ce) : (∀ o, o < 16 → (∀ j, j < o → ow j ≠ none) → ow o = none → ∃ M', fd_86 (nI a) M = some (nI o, M') ∧ cl_H M' (ab_npl o pl) (ab_now o a ow) ∧ cl_O M' (ab_now o a ow) ∧ cl_T M' (ab_nct o ct) ∧ cl_C M' (ab_now o a ow) (ab_nce o ce) ∧ fr_ [80, 81, 82, 83] M M') ∧ ((∀ j, j < 16 → ow j ≠ none) → fd_86 (nI a) M = some (-1, ds_w M 94 7 (M 94 7 + 1))) := by
  have st := cs_87_2 (a := a) hw hO 16 0 1000 rfl (by decide)
  refine ⟨fun o ho hj hn => ?_, fun hj => ?_⟩
  · have e0 : fd_87 (nI a) M = (fd_88 (nI o) (ds_w M 80 o (nI a))).bind fun q5 => some (nI o, q5) := st.1 o ho (fun j _ h => hj j h) (Nat.zero_le _) hn
    unfold fd_88 at e0
    simp (disch := omega) only [pu_cl, pu_g2] at e0
    obtain ⟨N1, f1, f2, f3, f4⟩ := cs_88_9 ho 6 0 1000 (ds_w (ds_w M 80 o (nI a)) 81 o 0) rfl (by decide)
    obtain ⟨N2, g1, g2, g3, g4⟩ := cs_88_30 ho 4 0 1000 N1 rfl (by decide)
    rw [show fd_88_9 1000 (nI o) 0 (ds_w (ds_w M 80 o (nI a)) 81 o 0) = some N2 from f1.trans g1, Option.bind_some] at e0
    have hr : ∀ h, h ≠ 80 → h ≠ 81 → h ≠ 82 → h ≠ 83 → N2 h = M h := by
      intro h h1 h2 h3 h4
      rw [g4 h (by simpa using h4), f4 h (by simpa using h3), dw_r _ _ _ h2, dw_r _ _ _ h1]
    have live : ∀ u, u ≠ o → ab_now o a ow u = ow u := fun u h => if_neg h
    refine ⟨N2, ?_, ⟨fun h k hh hk hl => ?_, fun b k hb hk => ?_⟩, fun u hu => ?_, fun b u hb hu => ?_, fun u hu hl => ?_, fun h hh => hr h (by simp at hh; omega) (by simp at hh; omega) (by simp at hh; omega) (by simp at hh; omega)⟩
    · unfold fd_86
      rw [e0, Option.bind_some]
      exact if_neg (en_nI_m1 (by omega))
    · rw [g4 82 (by decide)]
      unfold ab_npl
      by_cases e : h = o
      · subst e; rw [if_pos rfl, f2 k (Nat.zero_le _) hk]; rfl
      · rw [if_neg e, f3 _ (fun b _ hb => by omega), dw_r _ _ _ (by decide), dw_r _ _ _ (by decide)]
        rw [live h e] at hl; exact hH.1 h k hh hk hl
    · rw [g4 82 (by decide), f3 _ (fun b _ hb => by omega), dw_r _ _ _ (by decide), dw_r _ _ _ (by decide)]
      unfold ab_npl; rw [if_neg (by omega)]; exact hH.2 b k hb hk
    · rw [g4 80 (by decide), f4 80 (by decide), dw_r _ _ _ (by decide)]
      unfold ab_now
      by_cases e : u = o
      · subst e; rw [dw_s, if_pos rfl]; rfl
      · rw [dw_n _ _ e, if_neg e]; exact hO u hu
    · unfold ab_nct
      by_cases e : u = o
      · subst e; rw [if_pos rfl, g2 b (Nat.zero_le _) hb]; rfl
      · rw [if_neg e, g3 _ (fun c _ hc => by omega), f4 83 (by decide), dw_r _ _ _ (by decide), dw_r _ _ _ (by decide)]; exact hT b u hb hu
    · rw [g4 81 (by decide), f4 81 (by decide)]
      unfold ab_nce
      by_cases e : u = o
      · subst e; rw [dw_s, if_pos rfl]
      · rw [dw_n _ _ e, dw_r _ _ _ (by decide), if_neg e]
        rw [live u e] at hl; exact hC u hu hl
  · have e0 : fd_87 (nI a) M = some (-1, M) := st.2 (fun j _ h => hj j h)
    unfold fd_86
    rw [e0, Option.bind_some]
    exact if_pos rfl
end
