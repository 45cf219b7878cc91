/-! The state, as the reference keeps it (rf_) and as the class keeps it (cl_): places pl, owners ow, counts ct, messages q, m of them -/
def rf_H (N : am_M) (pl : Nat → Nat → Option Nat) : Prop := (∀ h k, h < 16 → k < 6 → N 99 (6 * h + k) = en_o (pl h k)) ∧ ∀ a k, a < 4 → k < 6 → N 101 (6 * a + k) = en_o (pl (16 + a) k)
def rf_O (N : am_M) (ow : Nat → Option Nat) : Prop := ∀ o, o < 16 → N 97 o = en_o (ow o)
def rf_T (N : am_M) (ct : Nat → Nat → Int) : Prop := ∀ a o, a < 4 → o < 16 → N 100 (16 * a + o) = en_i (ct a o)
def rf_Q (N : am_M) (pl : Nat → Nat → Option Nat) (q : ct_Q) (m : Nat) : Prop := N 96 15 = nI m ∧ m ≤ 20 ∧ ∀ i, i < m → N 108 i = nI (q i).1 ∧ N 109 i = nI (q i).2.1 ∧ N 110 i = nI (q i).2.2.1 ∧ N 111 i = (if (q i).1 = 0 then en_o (pl 21 i) else en_i (q i).2.2.2.1)
def rf_L (N : am_M) (lo : Nat → Option Nat) : Prop := ∀ x, x < 6 → N 115 x = en_o (lo x)
def cl_H (M : am_M) (pl : Nat → Nat → Option Nat) (ow : Nat → Option Nat) : Prop := (∀ h k, h < 16 → k < 6 → ow h ≠ none → M 82 (h * 6 + k) = en_o (pl h k)) ∧ ∀ a k, a < 4 → k < 6 → M 82 ((16 + a) * 6 + k) = en_o (pl (16 + a) k)
def cl_O (M : am_M) (ow : Nat → Option Nat) : Prop := ∀ o, o < 16 → M 80 o = en_o (ow o)
def cl_T (M : am_M) (ct : Nat → Nat → Int) : Prop := ∀ a o, a < 4 → o < 16 → M 83 (a * 16 + o) = en_i (ct a o)
def cl_Q (M : am_M) (pl : Nat → Nat → Option Nat) (q : ct_Q) (m : Nat) : Prop := M 84 4 = nI m ∧ m ≤ 20 ∧ ∀ i, i < m → M 85 i = nI (q i).1 ∧ M 86 i = nI (q i).2.1 ∧ M 87 i = (if (q i).1 = 0 then en_o (pl 21 i) else nI (q i).2.2.1) ∧ M 88 i = (if (q i).1 = 0 then nI (q i).2.2.1 else en_i (q i).2.2.2.1)
def cl_L (M : am_M) (lo : Nat → Option Nat) : Prop := ∀ x, x < 6 → M 95 x = en_o (lo x)
/-- owners and places are numbers that there are -/
def sy_w (n : Nat) (pl : Nat → Nat → Option Nat) (ow : Nat → Option Nat) : Prop := (∀ h k t, h < 20 → pl h k = some t → t < 16) ∧ (∀ o a, ow o = some a → a < n) ∧ n ≤ 4
/-- counts are small -/
def sy_c (ct : Nat → Nat → Int) : Prop := ∀ a o, a < 4 → o < 16 → en_w (ct a o)
section
variable {N M : am_M} {pl pl' : Nat → Nat → Option Nat} {ow : Nat → Option Nat} {ct : Nat → Nat → Int} {q : ct_Q} {m n : Nat}
/-- say -/
theorem rs_155 (H : rf_Q N pl q m) (hm : m < 20) (x : Nat × Nat × Nat × Int × (Nat → Bool)) (hpl : ∀ i, i < m → pl' 21 i = pl 21 i) {a1 a2 a3 a4 : Int32} (h1 : a1 = nI x.1) (h2 : a2 = nI x.2.1) (h3 : a3 = nI x.2.2.1) (h4 : a4 = (if x.1 = 0 then en_o (pl' 21 m) else en_i x.2.2.2.1)) : ∃ N', fd_155 a1 a2 a3 a4 N = some N' ∧ rf_Q N' pl' (ct_ap q m x) (m + 1) ∧ fr_ [96, 108, 109, 110, 111] N N' ∧ fs_ [15] N N' := by
  obtain ⟨hs, hm20, hr⟩ := H
  refine ⟨_, (by unfold fd_155; rw [hs]; simp (disch := omega) only [pu_cl, pu_g2]; rfl), ⟨?_, by omega, fun i hi => ?_⟩, ?_, ?_⟩
  · rw [dw_s, nI_1]
  · simp only [dw_x]
    by_cases e : i = m
    · subst e
      simp [ct_ap_s, h1, h2, h3, h4]
    · have := hr i (by omega)
      simp [ct_ap_n e, e, this, hpl i (by omega)]
  · exact fr_w (fr_w (fr_w (fr_w (fr_w (fr_refl _ _) (by decide)) (by decide)) (by decide)) (by decide)) (by decide)
  · exact fs_w (fs_w (fs_w (fs_w (fs_w (fs_refl _ _) (by simp)) (by simp)) (by simp)) (by simp)) (by simp)
/-- put -/
theorem cs_66 (H : cl_Q M pl q m) (hm : m < 20) (x : Nat × Nat × Nat × Int × (Nat → Bool)) (hpl : ∀ i, i < m → pl' 21 i = pl 21 i) {a1 a2 a3 a4 : Int32} (h1 : a1 = nI x.1) (h2 : a2 = nI x.2.1) (h3 : a3 = (if x.1 = 0 then en_o (pl' 21 m) else nI x.2.2.1)) (h4 : a4 = (if x.1 = 0 then nI x.2.2.1 else en_i x.2.2.2.1)) : ∃ M', fd_66 a1 a2 a3 a4 M = some M' ∧ cl_Q M' pl' (ct_ap q m x) (m + 1) ∧ fr_ [84, 85, 86, 87, 88] M M' := by
  obtain ⟨hs, hm20, hr⟩ := H
  refine ⟨_, (by unfold fd_66; rw [hs]; simp (disch := omega) only [pu_cl, pu_g2]; rfl), ⟨?_, by omega, fun i hi => ?_⟩, ?_⟩
  · rw [dw_s, nI_1]
  · simp only [dw_x]
    by_cases e : i = m
    · subst e
      simp [ct_ap_s, h1, h2, h3, h4]
    · have := hr i (by omega)
      simp [ct_ap_n e, e, this, hpl i (by omega)]
  · exact fr_w (fr_w (fr_w (fr_w (fr_w (fr_refl _ _) (by decide)) (by decide)) (by decide)) (by decide)) (by decide)
/-- a count changes -/
theorem rf_T_w (H : rf_T N ct) {a u : Nat} (ha : a < 4) (hu : u < 16) (v : Int) : rf_T (ds_w N 100 (16 * a + u) (en_i v)) (gh_u ct a u v) := by
  intro b o hb ho
  rw [dw_x]
  by_cases e : b = a ∧ o = u
  · obtain ⟨rfl, rfl⟩ := e; rw [gh_u_s, if_pos ⟨rfl, rfl⟩]
  · rw [gh_u_n _ _ e, if_neg (by rintro ⟨_, h⟩; exact e ⟨by omega, by omega⟩)]; exact H b o hb ho
theorem cl_T_w (H : cl_T M ct) {a u : Nat} (ha : a < 4) (hu : u < 16) (v : Int) : cl_T (ds_w M 83 (a * 16 + u) (en_i v)) (gh_u ct a u v) := by
  intro b o hb ho
  rw [dw_x]
  by_cases e : b = a ∧ o = u
  · obtain ⟨rfl, rfl⟩ := e; rw [gh_u_s, if_pos ⟨rfl, rfl⟩]
  · rw [gh_u_n _ _ e, if_neg (by rintro ⟨_, h⟩; exact e ⟨by omega, by omega⟩)]; exact H b o hb ho
theorem rf_T_f {N' : am_M} (H : rf_T N ct) (h : N' 100 = N 100) : rf_T N' ct := by unfold rf_T; rw [h]; exact H
theorem rf_O_f {N' : am_M} (H : rf_O N ow) (h : N' 97 = N 97) : rf_O N' ow := by unfold rf_O; rw [h]; exact H
theorem cl_T_f {M' : am_M} (H : cl_T M ct) (h : M' 83 = M 83) : cl_T M' ct := by unfold cl_T; rw [h]; exact H
theorem cl_O_f {M' : am_M} (H : cl_O M ow) (h : M' 80 = M 80) : cl_O M' ow := by unfold cl_O; rw [h]; exact H
theorem rf_Q_f {N' : am_M} (H : rf_Q N pl q m) (h0 : N' 96 15 = N 96 15) (h1 : N' 108 = N 108) (h2 : N' 109 = N 109) (h3 : N' 110 = N 110) (h4 : N' 111 = N 111) : rf_Q N' pl q m := by unfold rf_Q; rw [h0, h1, h2, h3, h4]; exact H
theorem cl_Q_f {M' : am_M} (H : cl_Q M pl q m) (h0 : M' 84 = M 84) (h1 : M' 85 = M 85) (h2 : M' 86 = M 86) (h3 : M' 87 = M 87) (h4 : M' 88 = M 88) : cl_Q M' pl q m := by unfold cl_Q; rw [h0, h1, h2, h3, h4]; exact H
end
