/-! What the statements do to the invariant -/
section
variable {pl pl' : Nat → Nat → Option Nat} {ow : Nat → Option Nat} {ct : Nat → Nat → Int} {q : ct_Q} {m : Nat} {lo lo' : Nat → Option Nat} {a b n nf : Nat} {pr : Nat → Nat} {t t' : ty_T} {Bd : Int} {x y f z c : Nat}
theorem sy_lo_up {v : Option Nat} (h : ∀ k w, lo k = some w → w < 16) (hv : ∀ w, v = some w → w < 16) : ∀ k w, up_1 lo x v k = some w → w < 16 := by
  intro k w hk
  by_cases e : k = x
  · subst e; rw [up_s] at hk; exact hv w hk
  · rw [up_n _ _ e] at hk; exact h k w hk
/-- a local becomes something: the places of locals -/
theorem sy_L_bc {v : Option Nat} (hx : x < 6) (hL : ∀ k, pl 20 k = if k < 6 ∧ t.1 k ≠ none then lo k else none) : ∀ k, gh_u pl 20 x v 20 k = if k < 6 ∧ (ty_bc x c t).1 k ≠ none then up_1 lo x v k else none := by
  intro k
  by_cases e : k = x
  · subst e; rw [gh_u_s, up_s]; simp [ty_bc, hx]
  · rw [gh_u_n _ _ (by omega), up_n _ _ e, hL k]; simp [ty_bc, e]
theorem sy_u20 {v : Option Nat} {h k : Nat} (hh : h ≠ 20) : gh_u pl 20 x v h k = pl h k := gh_u_n _ _ (fun e => hh e.1)
/-- a local becomes v with capability c, in its cell -/
theorem sy_R_bc {v : Option Nat} (R : sy_R a b n nf pr t pl ow ct q m lo Bd) (hx : x < 6) (hw : ty_w t) (hv : ∀ w, v = some w → w < 16) (hG : ∃ g V, gh_J a b (sy_K ow ct) (sy_E ow) (gh_u pl 20 x v) (gh_u (sy_cb pr q t) 20 x c) (gh_u (sy_cx a b t) 20 x (sy_P a b t)) g V) : sy_R a b n nf pr (ty_bc x c t) (gh_u pl 20 x v) ow ct q m (up_1 lo x v) Bd := by
  refine sy_R_pl R ?_ (sy_L_bc hx R.2.1) (sy_lo_up R.2.2.1 hv) (fun h k hh => ?_) (fun h k w hh hk => ?_) (fun i => sy_u20 (by decide)) (fun i w _ _ _ _ p k _ hp => sy_u20 (by omega))
  · rw [sy_cb_bc, sy_cx_bc hw]; exact hG
  · rw [sy_u20 (by omega)]; exact R.2.2.2.1 h k hh
  · rw [sy_u20 (by omega)] at hk; exact R.2.2.2.2.1 h k w hh hk
/-- COPY -/
theorem rn_1 (R : sy_R a b n nf pr t pl ow ct q m lo Bd) (hx : x < 6) (hy : y < 6) (hw : ty_w t) (hv : ty_v t) (hc : t.1 y = some c) (hh : t.2.1 y = false) : sy_R a b n nf pr (ty_bc x (gh_al c) t) (gh_u pl 20 x (lo y)) ow ct q m (up_1 lo x (lo y)) Bd := by
  obtain ⟨g, V, J⟩ := R.1
  refine sy_R_bc R hx hw (fun w h => R.2.2.1 y w h) ⟨g, V, ?_⟩
  obtain ⟨e1, e2⟩ := sy_acc (pr := pr) (q := q) (a := a) (b := b) hw hv hc hh
  have hpl := sy_tt R hy (by rw [hc]; simp)
  rw [← hpl]
  have c6 := hw.1 y c hc
  refine gh_st_loc J (sy_P_cel a b t) x _ _ (fun w hwv => ?_)
  have hE := J.1.1 20 y w hwv
  have hR := J.2.2.1.2 a 20 y w (Or.inr ⟨rfl, by decide, by decide⟩) hwv
  rw [gh_ca20, e1] at hE hR
  rw [gh_ce20] at hE
  have Pv := gh_ok_lv (gh_cel_ok (sy_P_cel a b t)).1
  have Pc := gh_ok_lv (gh_cel_ok (gh_J_c20 J y)).1
  have ee : c = 1 ∨ c = 2 ∨ c = 4 → sy_cx a b t 20 y = sy_P a b t := fun h => e2 (by rw [e1]; exact h)
  refine ⟨gh_al_2, ?_, hR.1, fun h5 => hR.2 ?_⟩
  · rcases lt6 c6 with rfl | rfl | rfl | rfl | rfl | rfl
    · exact Or.inl (by decide)
    · rw [ee (by decide)] at hE; exact gh_view_T (f := 1) (q := []) Pv gh_T_nil (by decide) (by decide) hE
    · rw [ee (by decide)] at hE; exact hE
    · rcases gh_E_lv Pc (by decide) hE with ⟨h, _⟩ | ⟨h, _⟩ | ⟨h, _⟩ | ⟨_, h⟩ | ⟨h, _⟩
      · omega
      · omega
      · omega
      · rw [h]; exact gh_E_F Pv (by decide)
      · omega
    · rw [ee (by decide)] at hE; exact hE
    · exact Or.inl (by decide)
  · rcases lt6 c6 with rfl | rfl | rfl | rfl | rfl | rfl
    · decide
    · decide
    · decide
    · decide
    · decide
    · exact absurd h5 (by decide)
theorem sy_hd {h : Nat} (R : sy_R a b n nf pr t pl ow ct q m lo Bd) (ha : a < 4) (hy : y < 7) (hw : ty_w t) (hv : ty_v t) (hc : ty_c t y = some c) (hh : ty_h t y = false) (c5 : c < 5) (hhd : ab_hd a lo y = some h) : gh_hd a (sy_P a b t) pl (sy_cb pr q t) (sy_cx a b t) h c y := by
  unfold ty_c at hc; unfold ty_h at hh; unfold ab_hd at hhd
  by_cases e : y = 6
  · rw [if_pos e] at hc hh hhd
    injection hc with hc; injection hhd with hhd
    exact Or.inl ⟨e, hhd.symm, ha, hc.symm, by unfold sy_P; simp [hh]⟩
  · rw [if_neg e] at hc hh hhd
    obtain ⟨e1, e2⟩ := sy_acc (pr := pr) (q := q) (a := a) (b := b) hw hv hc hh
    have hpl := sy_tt R (show y < 6 by omega) (by rw [hc]; simp)
    exact Or.inr ⟨by omega, by rw [hpl, hhd], e1, c5, fun g => e2 (by rw [e1]; exact g)⟩
/-- a holder is there, and is nobody's but a's when it can be written -/
theorem sy_hd_ex {h : Nat} (R : sy_R a b n nf pr t pl ow ct q m lo Bd) (ha : a < 4) (hy : y < 7) (hw : ty_w t) (hv : ty_v t) (hc : ty_c t y = some c) (hh : ty_h t y = false) (c5 : c < 5) (hhd : ab_hd a lo y = some h) : h < 20 ∧ (h < 16 → ow h ≠ none) ∧ (c < 3 → ∀ i v, i < m → (q i).1 = 0 → pl 21 i = some v → pr (q i).2.2.1 = 0 ∨ pr (q i).2.2.1 = 3 → ¬ gh_dp pl v h) := by
  obtain ⟨g, V, J⟩ := R.1
  have H := sy_hd R ha hy hw hv hc hh c5 hhd
  obtain ⟨h20, _, ⟨Pc, hPc, hxc, hE, _⟩, hva, _⟩ := gh_hold J (sy_P_cel a b t) H 0
  refine ⟨h20, fun h16 => ?_, fun c3 i v hi hk hpi hpr hd => ?_⟩
  · rcases hva with ⟨_, hV⟩ | hwh
    · rcases J.2.1.2 a h hV with e | e
      · exact (J.2.2.2.1 h (by rw [e]; intro g; cases g)).2
      · exact (J.2.2.2.1 h (by intro g; rw [g] at e; simp [gh_D] at e)).2
    · rcases hwh with ⟨e, _⟩ | ⟨_, e, _⟩ <;> omega
  · have hex := gh_msg J hpi (by rfl) (by unfold sy_cb; simpa using hpr) hd
    obtain ⟨_, hla, _⟩ := gh_hold_w (f := 0) J (sy_P_cel a b t) H c3
    have h16 : h < 16 := by
      have := R.2.2.2.2.2.2.2.1
      have e := hex.2
      unfold sy_E at e
      cases e2 : ow h with
      | none => exact absurd e2 e
      | some a' => exact (this h a' e2).2
    rw [gh_ce16 h16] at hla
    exact gh_msg_n hex.1 hla
/-- GET -/
theorem rn_3 (R : sy_R a b n nf pr t pl ow ct q m lo Bd) (ha : a < 4) (hx : x < 6) (hy : y < 7) (hf : f < 6) (hw : ty_w t) (hv : ty_v t) (hc : ty_c t y = some c) (hh : ty_h t y = false) (c5 : c < 5) : sy_R a b n nf pr (ty_bc x (gh_al (gh_vw c f)) t) (gh_u pl 20 x (ab_rd pl (ab_hd a lo y) f)) ow ct q m (up_1 lo x (ab_rd pl (ab_hd a lo y) f)) Bd := by
  obtain ⟨g, V, J⟩ := R.1
  cases hhd : ab_hd a lo y with
  | none => exact sy_R_bc R hx hw (fun w h => by cases h) ⟨g, V, gh_J_lc J (sy_P_cel a b t) x _⟩
  | some h =>
    have H := sy_hd R ha hy hw hv hc hh c5 hhd
    have h20 := (sy_hd_ex R ha hy hw hv hc hh c5 hhd).1
    exact sy_R_bc R hx hw (fun w h' => (R.2.2.2.2.1 h f w h20 h').1) ⟨g, V, gh_st_get J (sy_P_cel a b t) H hf⟩
/-- MOVE -/
theorem rn_2 (R : sy_R a b n nf pr t pl ow ct q m lo Bd) (hx : x < 6) (hy : y < 6) (hw : ty_w t) (hv : ty_v t) (hc : t.1 y = some c) (hh : t.2.1 y = false) : sy_R a b n nf pr (ty_bc x c (ty_em y t)) (gh_u (gh_u pl 20 y none) 20 x (lo y)) ow ct q m (up_1 lo x (lo y)) Bd := by
  obtain ⟨g, V, J⟩ := R.1
  obtain ⟨e1, e2⟩ := sy_acc (pr := pr) (q := q) (a := a) (b := b) hw hv hc hh
  have hpl := sy_tt R hy (by rw [hc]; simp)
  have c6 := hw.1 y c hc
  obtain ⟨g', J'⟩ := gh_st_move J (sy_P_cel a b t) x y e2 (by rw [e1]; exact c6) (fun k => R.2.2.2.1 22 k (by decide))
  rw [hpl, e1] at J'
  refine sy_R_pl R ⟨g', V, ?_⟩ (fun k => ?_) (sy_lo_up R.2.2.1 (fun w h => R.2.2.1 y w h)) (fun h k hh => ?_) (fun h k w hh hk => ?_) (fun i => ?_) (fun i w _ _ _ _ p k _ hp => ?_)
  · rw [sy_cb_bc, sy_cx_bc (show ty_w (ty_em y t) from ⟨fun i d hd => by
      unfold ty_em at hd
      by_cases e : i = y
      · simp [e] at hd
      · simp [e] at hd; exact hw.1 i d hd, hw.2⟩)]
    refine gh_J_mono J' (fun h k u hu => ⟨hu, ?_, fun _ => ?_⟩) ?_
    · by_cases ex : h = 20 ∧ k = x
      · obtain ⟨rfl, rfl⟩ := ex; unfold gh_ca; rw [gh_u_s, gh_u_s]
      · rw [gh_u_n _ _ ex] at hu
        have ey : ¬ (h = 20 ∧ k = y) := by rintro ⟨rfl, rfl⟩; rw [gh_u_s] at hu; cases hu
        unfold gh_ca; rw [gh_u_n _ _ ex, gh_u_n _ _ ex]
        by_cases h20 : h < 20
        · rw [if_pos h20, if_pos h20]
        · rw [if_neg h20, if_neg h20]
          unfold sy_cb ty_em
          by_cases e : h = 20
          · subst e
            have : k ≠ y := fun g => ey ⟨rfl, g⟩
            simp [this]
          · simp [e]
    · rfl
    · exact J'.2.2.2.2.2
  · by_cases e : k = x
    · subst e; rw [gh_u_s, up_s]; simp [ty_bc, hx]
    · rw [gh_u_n _ _ (by omega), up_n _ _ e]
      by_cases e2 : k = y
      · subst e2; rw [gh_u_s]; simp [ty_bc, ty_em, e]
      · rw [gh_u_n _ _ (by omega), R.2.1 k]; simp [ty_bc, ty_em, e, e2]
  · rw [sy_u20 (by omega), sy_u20 (by omega)]; exact R.2.2.2.1 h k hh
  · rw [sy_u20 (by omega), sy_u20 (by omega)] at hk; exact R.2.2.2.2.1 h k w hh hk
  · rw [sy_u20 (by decide), sy_u20 (by decide)]
  · rw [sy_u20 (by omega), sy_u20 (by omega)]
end
