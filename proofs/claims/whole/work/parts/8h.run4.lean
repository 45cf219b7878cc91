/-! PUT, SWAP, OPEN, SHUT, NEW keep the invariant -/
section
variable {pl pl' : Nat → Nat → Option Nat} {ow : Nat → Option Nat} {ct : Nat → Nat → Int} {q : ct_Q} {m : Nat} {lo lo' : Nat → Option Nat} {a b n nf : Nat} {pr : Nat → Nat} {t t' : ty_T} {Bd : Int} {x y f z c : Nat}
theorem sy_sn {k : Nat} (h : st_sn k = true) (h5 : k < 5) : k = 0 ∨ k = 3 := by
  unfold st_sn at h; simp at h; omega
theorem sy_sn' {k : Nat} (h : st_sn k = true) : k = 0 ∨ k = 3 ∨ k = 5 := by
  unfold st_sn at h; simp at h; omega
theorem ty_em_w (hw : ty_w t) : ty_w (ty_em z t) := ⟨fun i d hd => by
  unfold ty_em at hd
  by_cases e : i = z
  · simp [e] at hd
  · simp [e] at hd; exact hw.1 i d hd, hw.2⟩
/-- PUT -/
theorem rn_4 {cz : Nat} (R : sy_R a b n nf pr t pl ow ct q m lo Bd) (hpr : ∀ b, b < nf → st_sn (pr b) = true) (ha : a < 4) (hy : y < 7) (hf : f < 6) (hz : z < 6) (hw : ty_w t) (hv : ty_v t) (hc : ty_c t y = some c) (hh : ty_h t y = false) (c3 : c < 3) (hcz : t.1 z = some cz) (hhz : t.2.1 z = false) (hsa : gh_sa (gh_al cz) c) (hsu : gh_su (gh_al cz) f) : sy_R a b n nf pr t (ab_wr pl (ab_hd a lo y) f (lo z)) ow ct q m lo Bd := by
  obtain ⟨g, V, J⟩ := R.1
  cases hhd : ab_hd a lo y with
  | none => exact R
  | some h =>
    have H := sy_hd R ha hy hw hv hc hh (by omega) hhd
    obtain ⟨h20, _, hmsg⟩ := sy_hd_ex R ha hy hw hv hc hh (by omega) hhd
    obtain ⟨e1, e2⟩ := sy_acc (pr := pr) (q := q) (a := a) (b := b) hw hv hcz hhz
    have hpl := sy_tt R hz (by rw [hcz]; simp)
    have cz6 := hw.1 z cz hcz
    have J' := gh_st_put (f := f) (z := z) J (sy_P_cel a b t) H c3 (by rw [e1]; exact cz6) e2 (by rw [e1]; exact hsa) (by rw [e1]; exact hsu)
    rw [hpl] at J'
    show sy_R a b n nf pr t (gh_u pl h f (lo z)) ow ct q m lo Bd
    refine sy_R_pl R ⟨g, V, J'⟩ (fun k => ?_) R.2.2.1 (fun h' k hh' => ?_) (fun h' k w hh' hk => ?_) (fun i => gh_u_n _ _ (by omega)) (fun i w hi hk hpi h5 p k hd hp => ?_)
    · rw [gh_u_n _ _ (by omega)]; exact R.2.1 k
    · rw [gh_u_n _ _ (by omega)]; exact R.2.2.2.1 h' k hh'
    · by_cases e : h' = h ∧ k = f
      · obtain ⟨rfl, rfl⟩ := e; rw [gh_u_s] at hk; exact ⟨R.2.2.1 z w hk, hf⟩
      · rw [gh_u_n _ _ e] at hk; exact R.2.2.2.2.1 h' k w hh' hk
    · refine gh_u_n _ _ ?_
      rintro ⟨rfl, _⟩
      have hb := (R.2.2.2.2.2.2.2.2.2.1.2.1 i hi).2.2.1 hk
      exact hmsg c3 i w hi hk hpi (sy_sn (hpr _ hb) h5) hd
/-- SWAP -/
theorem rn_5 {cz : Nat} (R : sy_R a b n nf pr t pl ow ct q m lo Bd) (hpr : ∀ b, b < nf → st_sn (pr b) = true) (ha : a < 4) (hx : x < 6) (hy : y < 7) (hf : f < 6) (hz : z < 6) (hyz : y ≠ z) (hw : ty_w t) (hv : ty_v t) (hc : ty_c t y = some c) (hh : ty_h t y = false) (c3 : c < 3) (hcz : t.1 z = some cz) (hhz : t.2.1 z = false) (hsa : gh_sa cz c) (hsu : gh_su cz f) : sy_R a b n nf pr (ty_bc x (gh_dw c f) (ty_em z t)) (gh_u (ab_wr (gh_u pl 20 z none) (ab_hd a lo y) f (lo z)) 20 x (ab_rd pl (ab_hd a lo y) f)) ow ct q m (up_1 lo x (ab_rd pl (ab_hd a lo y) f)) Bd := by
  obtain ⟨g, V, J⟩ := R.1
  obtain ⟨e1, e2⟩ := sy_acc (pr := pr) (q := q) (a := a) (b := b) hw hv hcz hhz
  have hpl := sy_tt R hz (by rw [hcz]; simp)
  have cz6 := hw.1 z cz hcz
  have adj : ∀ {pl2 : Nat → Nat → Option Nat} {g' : Nat → gh_P}, pl2 20 z = none ∨ z = x → gh_J a b (sy_K ow ct) (sy_E ow) pl2 (gh_u (sy_cb pr q t) 20 x (gh_dw c f)) (gh_u (sy_cx a b t) 20 x (sy_P a b t)) g' V → gh_J a b (sy_K ow ct) (sy_E ow) pl2 (sy_cb pr q (ty_bc x (gh_dw c f) (ty_em z t))) (sy_cx a b (ty_bc x (gh_dw c f) (ty_em z t))) g' V := by
    intro pl2 g' hz2 J2
    rw [sy_cb_bc, sy_cx_bc (ty_em_w hw)]
    refine gh_J_mono J2 (fun h k u hu => ⟨hu, ?_, fun _ => rfl⟩) J2.2.2.2.2.2
    by_cases ex : h = 20 ∧ k = x
    · obtain ⟨rfl, rfl⟩ := ex; unfold gh_ca; rw [gh_u_s, gh_u_s]
    · have ez : ¬ (h = 20 ∧ k = z) := by
        rintro ⟨rfl, rfl⟩
        rcases hz2 with h | h
        · rw [h] at hu; cases hu
        · exact ex ⟨rfl, h⟩
      unfold gh_ca; rw [gh_u_n _ _ ex, gh_u_n _ _ ex]
      by_cases h20 : h < 20
      · rw [if_pos h20, if_pos h20]
      · rw [if_neg h20, if_neg h20]
        unfold sy_cb ty_em
        by_cases e : h = 20
        · subst e
          have : k ≠ z := fun g => ez ⟨rfl, g⟩
          simp [this]
        · simp [e]
  cases hhd : ab_hd a lo y with
  | none =>
    show sy_R a b n nf pr (ty_bc x (gh_dw c f) (ty_em z t)) (gh_u (gh_u pl 20 z none) 20 x none) ow ct q m (up_1 lo x none) Bd
    refine sy_R_pl R ⟨g, V, adj ?_ (gh_J_lc (gh_J_rm J 20 z) (sy_P_cel a b t) x _)⟩ (fun k => ?_) (sy_lo_up R.2.2.1 (fun w h => by cases h)) (fun h k hh => ?_) (fun h k w hh hk => ?_) (fun i => ?_) (fun i w _ _ _ _ p k _ hp => ?_)
    · by_cases e : z = x
      · exact Or.inr e
      · left; rw [gh_u_n _ _ (by omega), gh_u_s]
    · by_cases e : k = x
      · subst e; rw [gh_u_s, up_s]; simp
      · rw [gh_u_n _ _ (by omega), up_n _ _ e]
        by_cases e2 : k = z
        · subst e2; rw [gh_u_s]; simp [ty_bc, ty_em, e]
        · rw [gh_u_n _ _ (by omega), R.2.1 k]; simp [ty_bc, ty_em, e, e2]
    · rw [sy_u20 (by omega), sy_u20 (by omega)]; exact R.2.2.2.1 h k hh
    · rw [sy_u20 (by omega), sy_u20 (by omega)] at hk; exact R.2.2.2.2.1 h k w hh hk
    · rw [sy_u20 (by decide), sy_u20 (by decide)]
    · rw [sy_u20 (by omega), sy_u20 (by omega)]
  | some h =>
    have H := sy_hd R ha hy hw hv hc hh (by omega) hhd
    obtain ⟨h20, _, hmsg⟩ := sy_hd_ex R ha hy hw hv hc hh (by omega) hhd
    obtain ⟨g', J'⟩ := gh_st_swap (x := x) (z := z) J (sy_P_cel a b t) H hyz c3 hf (by rw [e1]; exact cz6) e2 (by rw [e1]; exact hsa) (by rw [e1]; exact hsu) (fun k => R.2.2.2.1 22 k (by decide))
    rw [hpl] at J'
    show sy_R a b n nf pr (ty_bc x (gh_dw c f) (ty_em z t)) (gh_u (gh_u (gh_u pl 20 z none) h f (lo z)) 20 x (pl h f)) ow ct q m (up_1 lo x (pl h f)) Bd
    refine sy_R_pl R ⟨g', V, adj ?_ J'⟩ (fun k => ?_) (sy_lo_up R.2.2.1 (fun w h' => (R.2.2.2.2.1 h f w h20 h').1)) (fun h' k hh => ?_) (fun h' k w hh hk => ?_) (fun i => ?_) (fun i w hi hk hpi h5 p k hd hp => ?_)
    · by_cases e : z = x
      · exact Or.inr e
      · left; rw [gh_u_n _ _ (by omega), gh_u_n _ _ (by omega), gh_u_s]
    · by_cases e : k = x
      · subst e; rw [gh_u_s, up_s]; simp [ty_bc, hx]
      · rw [gh_u_n _ _ (by omega), up_n _ _ e, gh_u_n _ _ (by omega)]
        by_cases e2 : k = z
        · subst e2; rw [gh_u_s]; simp [ty_bc, ty_em, e]
        · rw [gh_u_n _ _ (by omega), R.2.1 k]; simp [ty_bc, ty_em, e, e2]
    · rw [sy_u20 (by omega), gh_u_n _ _ (by omega), sy_u20 (by omega)]; exact R.2.2.2.1 h' k hh
    · rw [sy_u20 (by omega)] at hk
      by_cases e : h' = h ∧ k = f
      · obtain ⟨rfl, rfl⟩ := e; rw [gh_u_s] at hk; exact ⟨R.2.2.1 z w hk, hf⟩
      · rw [gh_u_n _ _ e, sy_u20 (by omega)] at hk; exact R.2.2.2.2.1 h' k w hh hk
    · rw [sy_u20 (by decide), gh_u_n _ _ (by omega), sy_u20 (by decide)]
    · rw [sy_u20 (by omega)]
      have ne : ¬ (p = h ∧ k = f) := by
        rintro ⟨rfl, _⟩
        have hb := (R.2.2.2.2.2.2.2.2.2.1.2.1 i hi).2.2.1 hk
        exact hmsg c3 i w hi hk hpi (sy_sn (hpr _ hb) h5) hd
      rw [gh_u_n _ _ ne, sy_u20 (by omega)]
/-- OPEN -/
theorem rn_9 (R : sy_R a b n nf pr t pl ow ct q m lo Bd) (hw : ty_w t) (hb : t.2.2.2 = false) : sy_R a b n nf pr (ty_op t) pl ow ct q m lo Bd := by
  obtain ⟨g, V, J⟩ := R.1
  have e : sy_cx a b (ty_op t) = sy_cx a b t := by
    funext h k; unfold sy_cx ty_op; simp [(hw.2 hb k).2]
  refine sy_R_pl R ⟨g, V, ?_⟩ R.2.1 R.2.2.1 R.2.2.2.1 R.2.2.2.2.1 (fun _ => rfl) (fun _ _ _ _ _ _ _ _ _ _ => rfl)
  rw [e]; exact J
/-- SHUT -/
theorem rn_10 (R : sy_R a b n nf pr t pl ow ct q m lo Bd) (hx : x < 6) (hy : y < 6) (hw : ty_w t) (hv : ty_v t) (hb : t.2.2.2 = true) (hc : t.1 y = some c) (hh : t.2.1 y = false) : ∃ b', sy_R a b' n nf pr (ty_sh x y t) (gh_u (fun h k => if h = 20 ∧ (k = y ∨ t.2.2.1 k = true) then none else pl h k) 20 x (lo y)) ow ct q m (up_1 lo x (lo y)) Bd := by
  obtain ⟨g, V, J⟩ := R.1
  obtain ⟨e1, e2⟩ := sy_acc (pr := pr) (q := q) (a := a) (b := b) hw hv hc hh
  have hP : sy_P a b t = [(1, b), (0, a)] := by unfold sy_P; rw [if_pos hb]
  rw [hP] at e2
  have hpl := sy_tt R hy (by rw [hc]; simp)
  have c6 := hw.1 y c hc
  obtain ⟨b', g', J'⟩ := gh_st_shut J x y e2 (by rw [e1]; exact c6) R.2.2.2.1 (fun k => rfl)
  have ecx : ∀ k, (sy_cx a b t 20 k = [(1, b), (0, a)] ↔ t.2.2.1 k = true) := by
    intro k; unfold sy_cx
    cases t.2.2.1 k <;> simp
  have epl : (fun h k => if h = 20 ∧ (k = y ∨ sy_cx a b t 20 k = [(1, b), (0, a)]) then none else pl h k) = (fun h k => if h = 20 ∧ (k = y ∨ t.2.2.1 k = true) then none else pl h k) := by
    funext h k; simp only [ecx k]
  rw [epl, hpl, e1] at J'
  have o20 : ∀ h k, h ≠ 20 → gh_u (fun h k => if h = 20 ∧ (k = y ∨ t.2.2.1 k = true) then none else pl h k) 20 x (lo y) h k = pl h k := by
    intro h k e; rw [sy_u20 e]; exact if_neg (fun g => e g.1)
  refine ⟨b', sy_R_pl R ⟨g', V, ?_⟩ (fun k => ?_) (sy_lo_up R.2.2.1 (fun w h => R.2.2.1 y w h)) (fun h k hh => ?_) (fun h k w hh hk => ?_) (fun i => o20 _ _ (by decide)) (fun i w _ _ _ _ p k _ hp => o20 _ _ (by omega))⟩
  · have ec : sy_cx a b' (ty_sh x y t) = gh_c0 a := by
      funext h k; unfold sy_cx ty_sh gh_c0; simp
    rw [ec]
    refine gh_J_mono J' (fun h k u hu => ⟨hu, ?_, fun _ => rfl⟩) J'.2.2.2.2.2
    by_cases ex : h = 20 ∧ k = x
    · obtain ⟨rfl, rfl⟩ := ex; unfold gh_ca; rw [gh_u_s]; unfold sy_cb ty_sh; simp [hc]
    · rw [gh_u_n _ _ ex] at hu
      unfold gh_ca; rw [gh_u_n _ _ ex]
      by_cases h20 : h < 20
      · rw [if_pos h20, if_pos h20]
      · rw [if_neg h20, if_neg h20]
        unfold sy_cb ty_sh
        by_cases e : h = 20
        · subst e
          have hk : ¬ (k = y ∨ t.2.2.1 k = true) := by
            intro g; simp [g] at hu
          have hkx : k ≠ x := fun g => ex ⟨rfl, g⟩
          simp [hk, hkx]
        · simp [e]
  · by_cases e : k = x
    · subst e; rw [gh_u_s, up_s]; simp [ty_sh, hx]
    · rw [gh_u_n _ _ (by omega), up_n _ _ e]
      by_cases hk : k = y ∨ t.2.2.1 k = true
      · simp [hk, ty_sh, e]
      · simp only [ty_sh, if_neg e, if_neg hk]
        rw [if_neg (fun g => hk g.2)]; exact R.2.1 k
  · rw [o20 _ _ (by omega)]; exact R.2.2.2.1 h k hh
  · rw [o20 _ _ (by omega)] at hk; exact R.2.2.2.2.1 h k w hh hk
/-- NEW, when there is a number left -/
theorem rn_0 {o : Nat} (R : sy_R a b n nf pr t pl ow ct q m lo Bd) (hpr : ∀ b, b < nf → st_sn (pr b) = true) (hB : 0 ≤ Bd) (ha : a < n) (hx : x < 6) (hw : ty_w t) (ho : o < 16) (hn : ow o = none) : sy_R a b n nf pr (ty_bc x f t) (gh_u (ab_npl o pl) 20 x (some o)) (ab_now o a ow) (ab_nct o ct) q m (up_1 lo x (some o)) Bd := by
  obtain ⟨⟨g, V, J⟩, h2, h3, h4, h5, h6, h7, h8, h9, ⟨k1, k2, k3, k4, k5⟩, h11⟩ := R
  have gD : g o = gh_D := Classical.byContradiction (fun e => (J.2.2.2.1 o e).2 hn)
  have nw : ∀ u, u ≠ o → ab_now o a ow u = ow u := fun u h => if_neg h
  have nws : ab_now o a ow o = some a := if_pos rfl
  have nc : ∀ c u, u ≠ o → ab_nct o ct c u = ct c u := fun c u h => if_neg h
  have J1 := gh_J_grow (K' := sy_K (ab_now o a ow) (ab_nct o ct)) (ex' := sy_E (ab_now o a ow)) J (fun c u h => by
    rcases h with h | ⟨h, h'⟩
    · have : u ≠ o := by rintro rfl; rw [hn] at h; cases h
      exact Or.inl (by rw [nw u this]; exact h)
    · have : u ≠ o := by rintro rfl; exact h hn
      exact Or.inr ⟨by rw [nw u this]; exact h, by rw [nc c u this]; exact h'⟩) (fun u h => by
    have : u ≠ o := by rintro rfl; exact h hn
    unfold sy_E; rw [nw u this]; exact h)
  obtain ⟨g', V', J2⟩ := gh_st_new (x := x) (f := f) J1 (sy_P_cel a b t) ho gD (Or.inl nws) (by unfold sy_E; rw [nws]; simp)
  have dpo : ∀ i w, i < m → (q i).1 = 0 → pl 21 i = some w → pr (q i).2.2.1 < 5 → ∀ p, gh_dp pl w p → p ≠ o := by
    rintro i w hi hk hpi c5 p hd rfl
    have := gh_msg J hpi (by rfl) (by unfold sy_cb; simpa using sy_sn (hpr _ ((k2 i hi).2.2.1 hk)) c5) hd
    exact this.2 hn
  have npl : ∀ h k, h ≠ o → ab_npl o pl h k = pl h k := fun h k e => if_neg e
  refine ⟨⟨g', V', by rw [sy_cb_bc, sy_cx_bc hw]; exact J2⟩, fun k => ?_, sy_lo_up h3 (fun w h => by injection h with h; omega), fun h k hh => ?_, fun h k w hh hk => ?_, ct_I_new (by omega) h6 hn nws (fun u h => nw u h) (fun c _ => if_pos rfl) (fun c u h => nc c u h), fun u hu hnone c hc => ?_, fun u a' hu => ?_, h9, ⟨k1, k2, fun i u hi hk hu => ?_, fun i hi => ?_, fun i w hw' => ?_⟩, fun u hu => ?_⟩
  · by_cases e : k = x
    · subst e; rw [gh_u_s, up_s]; simp [ty_bc, hx]
    · rw [gh_u_n _ _ (by omega), up_n _ _ e, npl 20 k (by omega), h2 k]; simp [ty_bc, e]
  · rw [sy_u20 (by omega), npl h k (by omega)]; exact h4 h k hh
  · rw [sy_u20 (by omega)] at hk
    unfold ab_npl at hk
    by_cases e : h = o
    · rw [if_pos e] at hk; cases hk
    · rw [if_neg e] at hk; exact h5 h k w hh hk
  · by_cases e : u = o
    · subst e; rw [nws] at hnone; cases hnone
    · rw [nw u e] at hnone; rw [nc c u e]; exact h7 u hu hnone c hc
  · by_cases e : u = o
    · subst e; rw [nws] at hu; injection hu with hu; exact ⟨by omega, ho⟩
    · rw [nw u e] at hu; exact h8 u a' hu
  · rw [k3 i u hi hk hu]
    have e21 : ∀ k, gh_u (ab_npl o pl) 20 x (some o) 21 k = pl 21 k := fun k => by rw [sy_u20 (by decide), npl 21 k (by omega)]
    have agree : ∀ w, pl 21 i = some w → (gh_cl (gh_u (ab_npl o pl) 20 x (some o)) w (pr (q i).2.2.1) u ↔ gh_cl pl w (pr (q i).2.2.1) u) := fun w hw' => gh_cl_eq (fun c5 p k hd hp => by rw [sy_u20 (by omega), npl p k (dpo i w hi hk hw' c5 p hd)])
    constructor
    · rintro ⟨w, g1, g2⟩; exact ⟨w, by rw [e21]; exact g1, (agree w g1).mpr g2⟩
    · rintro ⟨w, g1, g2⟩; rw [e21] at g1; exact ⟨w, g1, (agree w g1).mp g2⟩
  · rw [sy_u20 (by decide), npl 21 i (by omega)]; exact k4 i hi
  · rw [sy_u20 (by decide), npl 21 i (by omega)] at hw'; exact k5 i w hw'
  · by_cases e : u = o
    · subst e
      unfold sy_W
      have z1 : ct_sum (fun c => ab_nct u ct c u) 4 = 0 := ct_sum_0 (fun c _ => if_pos rfl)
      have z2 : ct_sum (fun i => if (q i).1 = 1 ∧ (q i).2.2.1 = u then (q i).2.2.2.1 else 0) m = 0 := ct_sum_0 (fun i hi => by
        rw [if_neg]
        rintro ⟨g1, g2⟩
        have := (h6.2.1 i hi (by omega)).2
        rw [g2, hn] at this; cases this)
      rw [z1, z2]; exact hB
    · have := h11 u hu
      unfold sy_W at this ⊢
      rw [ct_sum_eq (fun c _ => nc c u e)]; exact this
end
