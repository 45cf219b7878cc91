/-! send -/
section
variable {N M : am_M} {pl : Nat → Nat → Option Nat} {ow : Nat → Option Nat} {ct : Nat → Nat → Int} {q : ct_Q} {m a to b c : Nat} {cl : Nat → Bool} {v : Option Nat}
theorem ab_pays_m : ∀ (k u : Nat) (s : (Nat → Nat → Int) × ct_Q × Nat), (ab_pays cl ow a k u s).2.2 = s.2.2 + ab_need cl ow s.1 a k u
  | 0, _, _ => rfl
  | k + 1, u, s => by
    rw [ab_pays, ab_need, ab_pays_m k (u + 1)]
    by_cases h : cl u = true
    · simp only [if_pos h]
      rw [ab_pay_m, ab_need_eq k (u + 1) (fun o ho => ab_pay_n (by omega))]
      simp only [h, true_and]; omega
    · simp only [if_neg h]; simp [h]
theorem rs_166 (hw : ∀ h k t, h < 20 → pl h k = some t → t < 16) (h6 : ∀ p k t, p < 16 → pl p k = some t → k < 6) (hv : ∀ t, v = some t → t < 16) (ho : ∀ o a, ow o = some a → a < 4) (ha : a < 4) (hb : b < 6) (hc : c < 6) (hp : N 102 b = nI c) (hH : rf_H N pl) (hO : rf_O N ow) (hT : rf_T N ct) (hQ : rf_Q N pl q m) (hcl : ∀ o, o < 16 → (cl o = true ↔ ∃ t, v = some t ∧ gh_cl pl t c o)) (he : ∀ o, o < 16 → cl o = true → ow o ≠ none) (hw' : ∀ o, o < 16 → en_w (ct a o)) :
    (20 < m + ab_need cl ow ct a 16 0 + 1 → ∃ N', fd_166 (nI a) (nI to) (nI b) (en_o v) N = some N' ∧ N' 96 24 = N 96 24 + 1 ∧ fr_ [96, 112, 113] N N' ∧ fs_ [24] N N') ∧
    (m + ab_need cl ow ct a 16 0 + 1 ≤ 20 → ∃ N', fd_166 (nI a) (nI to) (nI b) (en_o v) N = some N' ∧ rf_T N' (ab_pays cl ow a 16 0 (ct, q, m)).1 ∧ rf_Q N' (gh_u pl 21 (ab_pays cl ow a 16 0 (ct, q, m)).2.2 v) (ct_ap (ab_pays cl ow a 16 0 (ct, q, m)).2.1 (ab_pays cl ow a 16 0 (ct, q, m)).2.2 (0, to, b, 0, cl)) ((ab_pays cl ow a 16 0 (ct, q, m)).2.2 + 1) ∧ fr_ [96, 100, 108, 109, 110, 111, 112, 113] N N' ∧ fs_ [15] N N') := by
  obtain ⟨N1, N2, N3, e1, e2, e3, e4, f1, f2, f3⟩ := rs_one (cl := cl) hw h6 hv hc hH hcl
  have hneed : ab_need cl ow ct a 16 0 ≤ 16 := by
    have : ∀ k u, ab_need cl ow ct a k u ≤ k := by
      intro k
      induction k with
      | zero => intro u; exact Nat.le_refl _
      | succ k ih => intro u; rw [ab_need]; have := ih (u + 1); split <;> omega
    exact this 16 0
  have hm20 := hQ.2.1
  have hO3 := rf_O_f hO (f3 97 (by decide))
  have hT3 := rf_T_f hT (f3 100 (by decide))
  have hQ3 : rf_Q N3 pl q m := rf_Q_f hQ (by rw [f3 96 (by decide)]) (f3 _ (by decide)) (f3 _ (by decide)) (f3 _ (by decide)) (f3 _ (by decide))
  have start : fd_166 (nI a) (nI to) (nI b) (en_o v) N = if ((N3 96 15) + nI (0 + ab_need cl ow ct a 16 0)) + (1 : Int32) ≤ (20 : Int32) then fd_166_107 1000 (nI a) (nI to) (nI b) (en_o v) 0 N3 else some (ds_w N3 96 24 ((N3 96 24) + (1 : Int32))) := by
    unfold fd_166
    rw [e1, Option.bind_some]
    simp (disch := omega) only [pu_cl, pu_g2]
    rw [f1 102 (by decide), hp, e2, Option.bind_some, e3, Option.bind_some]
    exact rs_166_26 ho ha hO3 e4 hT3 hw' (nI to) (nI b) (en_o v) _ (fun _ => rfl) 16 0 0 1000 rfl (by decide)
  rw [hQ3.1, nI_add, nI_1, Nat.zero_add] at start
  refine ⟨fun h => ?_, fun h => ?_⟩
  · rw [if_neg (fun e => by have := (pu_le (b := 20) (by omega) (by decide)).mp e; omega)] at start
    refine ⟨_, start, ?_, ?_, ?_⟩
    · rw [dw_s, f3 96 (by decide)]
    · exact fr_w (fr_up f3 (by simp)) (by decide)
    · exact fs_w (fs_of f3 (by decide)) (by simp)
  · rw [if_pos (show nI (m + ab_need cl ow ct a 16 0 + 1) ≤ (20 : Int32) from (pu_le (b := 20) (by omega) (by decide)).mpr (by omega))] at start
    obtain ⟨N4, g1, g2, g3, g4, g5⟩ := rs_166_107 (pl := pl) ho ha he (nI to) (nI b) (en_o v) 16 0 1000 (ct, q, m) N3 rfl (by decide) hO3 e4 hT3 hQ3 (fun o _ h => hw' o h) (by show m + ab_need cl ow ct a 16 0 ≤ 20; omega)
    have hlt : (ab_pays cl ow a 16 0 (ct, q, m)).2.2 < 20 := by rw [ab_pays_m]; show m + ab_need cl ow ct a 16 0 < 20; omega
    obtain ⟨N5, k1, k2, k3, k4⟩ := rs_155 (pl' := gh_u pl 21 (ab_pays cl ow a 16 0 (ct, q, m)).2.2 v) g3 hlt (0, to, b, 0, cl) (fun i hi => gh_u_n _ _ (by omega)) (a1 := 0) (a2 := nI to) (a3 := nI b) (a4 := en_o v) rfl rfl rfl (by rw [if_pos rfl, gh_u_s])
    refine ⟨N5, by rw [start]; exact g1.trans k1, rf_T_f g2 (k3 100 (by decide)), k2, ?_, ?_⟩
    · exact fr_tr (fr_tr (fr_up f3 (by simp)) (fr_up g4 (by simp))) (fr_up k3 (by simp))
    · exact fs_tr (fs_tr (fs_of f3 (by decide)) g5) k4
theorem cs_43 (hb : b < 6) (hp : M (7 + 12 * b) 1 = nI c) : fd_43 (nI b) M = some (nI c, M) := by
  unfold fd_43 fd_44
  simp (disch := omega) only [pu_cl, pu_g2, Option.bind_some, hp]
theorem cs_99 (hw : ∀ h k t, h < 20 → pl h k = some t → t < 16) (h6 : ∀ p k t, p < 16 → pl p k = some t → k < 6) (hv : ∀ t, v = some t → t < 16) (ho : ∀ o a, ow o = some a → a < 4) (ha : a < 4) (hb : b < 6) (hc : c < 6) (hp : M (7 + 12 * b) 1 = nI c) (hH : cl_H M pl ow) (hO : cl_O M ow) (hT : cl_T M ct) (hQ : cl_Q M pl q m) (hcl : ∀ o, o < 16 → (cl o = true ↔ ∃ t, v = some t ∧ gh_cl pl t c o)) (hl : ∀ t p, v = some t → c < 5 → p < 16 → gh_dp pl t p → ow p ≠ none) (he : ∀ o, o < 16 → cl o = true → ow o ≠ none) (hw' : ∀ o, o < 16 → en_w (ct a o)) :
    (20 < m + ab_need cl ow ct a 16 0 + 1 → ∃ M', fd_99 (nI a) (nI to) (en_o v) (nI b) M = some M' ∧ M' 94 7 = M 94 7 + 1 ∧ M' 94 0 = M 94 0 ∧ fr_ [89, 90, 91, 94] M M') ∧
    (m + ab_need cl ow ct a 16 0 + 1 ≤ 20 → ∃ M', fd_99 (nI a) (nI to) (en_o v) (nI b) M = some M' ∧ cl_T M' (ab_pays cl ow a 16 0 (ct, q, m)).1 ∧ cl_Q M' (gh_u pl 21 (ab_pays cl ow a 16 0 (ct, q, m)).2.2 v) (ct_ap (ab_pays cl ow a 16 0 (ct, q, m)).2.1 (ab_pays cl ow a 16 0 (ct, q, m)).2.2 (0, to, b, 0, cl)) ((ab_pays cl ow a 16 0 (ct, q, m)).2.2 + 1) ∧ fr_ [83, 84, 85, 86, 87, 88, 89, 90, 91] M M') := by
  obtain ⟨M1, M2, e1, e2, e3, f1, f2⟩ := cs_one (cl := cl) hw h6 hv hc hH hl hcl
  have hneed : ab_need cl ow ct a 16 0 ≤ 16 := by
    have : ∀ k u, ab_need cl ow ct a k u ≤ k := by
      intro k
      induction k with
      | zero => intro u; exact Nat.le_refl _
      | succ k ih => intro u; rw [ab_need]; have := ih (u + 1); split <;> omega
    exact this 16 0
  have hm20 := hQ.2.1
  have hO3 := cl_O_f hO (f2 80 (by decide))
  have hT3 := cl_T_f hT (f2 83 (by decide))
  have hQ3 : cl_Q M2 pl q m := cl_Q_f hQ (f2 _ (by decide)) (f2 _ (by decide)) (f2 _ (by decide)) (f2 _ (by decide)) (f2 _ (by decide))
  have start : fd_99 (nI a) (nI to) (en_o v) (nI b) M = if ((1 : Int32) + nI (0 + ab_need cl ow ct a 16 0)) ≤ (20 : Int32) - nI m then fd_99_55 1000 (nI a) (nI to) (en_o v) (nI b) 0 M2 else some (ds_w M2 94 7 ((M2 94 7) + (1 : Int32))) := by
    unfold fd_99 fd_65 fd_100
    rw [cs_43 hb hp, Option.bind_some, e1, Option.bind_some, e2, Option.bind_some, Option.bind_some]
    simp only []
    rw [show (0 : Int32) = nI 0 from rfl, cs_100_4 ho ha hO3 e3 hT3 hw' 16 0 0 1000 rfl (by decide), Option.bind_some, hQ3.1]
  rw [show (20 : Int32) - nI m = nI (20 - m) from pk_sub (a := 20) (by omega), show ((1 : Int32) + nI (0 + ab_need cl ow ct a 16 0)) = nI (1 + (0 + ab_need cl ow ct a 16 0)) from nI_add 1 _] at start
  refine ⟨fun h => ?_, fun h => ?_⟩
  · rw [if_neg (fun e => by have := (pu_le (by omega) (by omega)).mp e; omega)] at start
    refine ⟨_, start, ?_, ?_, ?_⟩
    · rw [dw_s, f2 94 (by decide)]
    · rw [dw_n _ _ (by decide), f2 94 (by decide)]
    · exact fr_w (fr_up f2 (by simp)) (by decide)
  · rw [if_pos ((pu_le (by omega) (by omega)).mpr (by omega))] at start
    obtain ⟨M4, g1, g2, g3, g4⟩ := cs_99_55 (pl := pl) ho ha he (nI to) (en_o v) (nI b) 16 0 1000 (ct, q, m) M2 rfl (by decide) hO3 e3 hT3 hQ3 (fun o _ h => hw' o h) (by show m + ab_need cl ow ct a 16 0 ≤ 20; omega)
    have hlt : (ab_pays cl ow a 16 0 (ct, q, m)).2.2 < 20 := by rw [ab_pays_m]; show m + ab_need cl ow ct a 16 0 < 20; omega
    obtain ⟨M5, k1, k2, k3⟩ := cs_66 (pl' := gh_u pl 21 (ab_pays cl ow a 16 0 (ct, q, m)).2.2 v) g3 hlt (0, to, b, 0, cl) (fun i hi => gh_u_n _ _ (by omega)) (a1 := 0) (a2 := nI to) (a3 := en_o v) (a4 := nI b) rfl rfl (by rw [if_pos rfl, gh_u_s]) rfl
    refine ⟨M5, by rw [start]; exact g1.trans k1, cl_T_f g2 (k3 83 (by decide)), k2, ?_⟩
    exact fr_tr (fr_tr (fr_up f2 (by simp)) (fr_up g4 (by simp))) (fr_up k3 (by simp))
end
