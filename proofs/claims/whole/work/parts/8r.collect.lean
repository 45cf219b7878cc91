/-! collect: what is asked stays -/
section
variable {pr : Nat → Nat} {a a0 b b0 n nf u : Nat} {pl : Nat → Nat → Option Nat} {ow : Nat → Option Nat} {ct : Nat → Nat → Int} {q : ct_Q} {m : Nat} {lo : Nat → Option Nat} {Bd : Int} {cl : Nat → Bool} {t : ty_T}
/-- what a field has, its actor owns or counts; what is met by more than TAG from there is there -/
theorem sy_fd (R : sy_R a b n nf pr t pl ow ct q m lo Bd) {c k o : Nat} (hc : c < 4) (h : pl (16 + c) k = some o) : sy_K ow ct c o := by
  obtain ⟨g, V, J⟩ := R.1
  exact (J.2.2.1.2 c (16 + c) k o (Or.inl ⟨rfl, hc⟩) h).1
theorem sy_kd (R : sy_R a b n nf pr t pl ow ct q m lo Bd) {c k v p : Nat} (hc : c < 4) (k5 : k < 5) (h : pl (16 + c) k = some v) (hd : gh_dp pl v p) : ow p ≠ none := by
  obtain ⟨g, V, J⟩ := R.1
  have base : V c v := by
    have := (J.2.2.1.2 c (16 + c) k v (Or.inl ⟨rfl, hc⟩) h).2
    rw [gh_ca16 (by omega)] at this
    exact this k5
  have hV : V c p := gh_dp_ind (fun x => V c x) base (fun p k u _ hp h16 hk hu => ((J.2.2.1.1 c p h16 hp).2 k u hu).2 hk) hd
  rcases J.2.1.2 c p hV with e | e
  · exact (J.2.2.2.1 p (by rw [e]; intro g; cases g)).2
  · exact (J.2.2.2.1 p (by intro g; rw [g] at e; simp [gh_D] at e)).2
/-- what is met from a call's object by more than TAG is there -/
theorem sy_md (R : sy_R a b n nf pr t pl ow ct q m lo Bd) (hpr : ∀ b, b < nf → st_sn (pr b) = true) {i v p : Nat} (hi : i < m) (hk : (q i).1 = 0) (h : pl 21 i = some v) (c5 : pr (q i).2.2.1 < 5) (hd : gh_dp pl v p) : ow p ≠ none := by
  obtain ⟨g, V, J⟩ := R.1
  exact (gh_msg J h (by rfl) (by unfold sy_cb; simpa using sy_sn (hpr _ ((R.2.2.2.2.2.2.2.2.2.1.2.1 i hi).2.2.1 hk)) c5) hd).2
def sy_Q (a b n nf : Nat) (pr : Nat → Nat) (cl : Nat → Bool) (pl : Nat → Nat → Option Nat) (ow : Nat → Option Nat) (ct : Nat → Nat → Int) (q : ct_Q) (m : Nat) (lo : Nat → Option Nat) (Bd : Int) : Prop :=
  sy_R a b n nf pr ty_e pl ow ct q m lo Bd ∧ ∃ g V, gh_J a b (fun b' o => sy_K ow ct b' o ∧ (b' = a → cl o = true)) (sy_E ow) pl (sy_cb pr q ty_e) (sy_cx a b ty_e) g V
/-- an object is freed -/
theorem sy_fr (hpr : ∀ b, b < nf → st_sn (pr b) = true) (Q : sy_Q a b n nf pr cl pl ow ct q m lo Bd) (hu : u < 16) (how : ow u = some a) (hz : ct a u = 0) : sy_Q a b n nf pr cl (ab_fpl u pl) (ab_fow u ow) ct q m lo Bd := by
  obtain ⟨⟨_, h2, h3, h4, h5, h6, h7, h8, h9, ⟨k1, k2, k3, k4, k5⟩, h11⟩, g, V, J⟩ := Q
  obtain ⟨z1, z2, z3⟩ := ct_zero h6 hu how hz rfl
  obtain ⟨g', V', J1⟩ := gh_st_free J hu
  have ne : ∀ o, o ≠ u → ab_fow u ow o = ow o := fun o h => if_neg h
  have kk : ∀ c o, sy_K ow ct c o → o ≠ u → sy_K (ab_fow u ow) ct c o := fun c o h e => by
    unfold sy_K at h ⊢; rw [ne o e]; exact h
  have ee : ∀ o, sy_E ow o ∧ o ≠ u → sy_E (ab_fow u ow) o := fun o h => by
    have := h.1; unfold sy_E at this ⊢; rw [ne o h.2]; exact this
  have JA : gh_J a b (fun b' o => sy_K (ab_fow u ow) ct b' o ∧ (b' = a → cl o = true)) (sy_E (ab_fow u ow)) (ab_fpl u pl) (sy_cb pr q ty_e) (sy_cx a b ty_e) g' V' := gh_J_grow J1 (fun c o h => ⟨kk c o h.1.1 h.2, h.1.2⟩) ee
  have JB : gh_J a b (sy_K (ab_fow u ow) ct) (sy_E (ab_fow u ow)) (ab_fpl u pl) (sy_cb pr q ty_e) (sy_cx a b ty_e) g' V' := gh_J_grow J1 (fun c o h => kk c o h.1.1 h.2) ee
  have dcl : ∀ v c p, c < 5 → gh_dp pl v p → gh_cl pl v c p := fun v c p c5 hd => gh_dp_ind (fun x => gh_cl pl v c x) (Or.inl rfl) (fun p k' u hp _ h16 hk hu => Or.inr ⟨c5, p, k', hp, h16, hu⟩) hd
  have ncl : ∀ i v, i < m → (q i).1 = 0 → pl 21 i = some v → ¬ gh_cl pl v (pr (q i).2.2.1) u := fun i v hi hk hv hc => by
    have := (k3 i u hi hk hu).mpr ⟨v, hv, hc⟩
    rw [z2 i hi hk] at this; cases this
  have p21 : ∀ i, ab_fpl u pl 21 i = pl 21 i := fun i => by
    unfold ab_fpl
    split
    next h =>
      rcases h with h | h
      · omega
      · by_cases e : i < m ∧ (q i).1 = 0
        · exact absurd (Or.inl rfl) (ncl i u e.1 e.2 h)
        · rw [k4 i e]
    next => rfl
  refine ⟨⟨⟨g', V', JB⟩, fun x => ?_, h3, fun h k hh => ?_, fun h k v hh hv => h5 h k v hh (ab_fpl_le hv), ct_I_free hu h6 how hz (if_pos rfl) ne, fun o ho hn c hc => ?_, fun o c e => h8 o c (ab_fow_le e), h9, ⟨k1, k2, fun i o hi hk ho => ?_, fun i hi => by rw [p21]; exact k4 i hi, fun i v hv => k5 i v (by rw [← p21]; exact hv)⟩, h11⟩, g', V', JA⟩
  · have e := h2 x
    simp [ty_e] at e ⊢
    unfold ab_fpl; rw [e]; split <;> rfl
  · unfold ab_fpl; rw [h4 h k hh]; split <;> rfl
  · by_cases e : o = u
    · rw [e]; exact z1 c hc
    · rw [ne o e] at hn; exact h7 o ho hn c hc
  · rw [k3 i o hi hk ho]
    have key : ∀ v, pl 21 i = some v → (gh_cl (ab_fpl u pl) v (pr (q i).2.2.1) o ↔ gh_cl pl v (pr (q i).2.2.1) o) := fun v hv => gh_cl_eq (fun c5 p k hd hp => by
      unfold ab_fpl
      rw [if_neg]
      rintro (e | e)
      · exact ncl i v hi hk hv (by rw [← e]; exact dcl v _ p c5 hd)
      · exact ncl i v hi hk hv (Or.inr ⟨c5, p, k, hd, hp, e⟩))
    constructor
    · rintro ⟨v, g1, g2⟩; exact ⟨v, by rw [p21]; exact g1, (key v g1).mpr g2⟩
    · rintro ⟨v, g1, g2⟩; rw [p21] at g1; exact ⟨v, g1, (key v g1).mp g2⟩
/-- counts given back -/
theorem sy_gb {a1 : Nat} (ha : a < 4) (Q : sy_Q a b n nf pr cl pl ow ct q m lo Bd) (hu : u < 16) (how : ow u = some a1) (hne : a1 ≠ a) (hcl : cl u = false) (hz : ct a u ≠ 0) (hm : m < 20) : sy_Q a b n nf pr cl pl ow (gh_u ct a u 0) (ct_ap q m (2, a1, u, ct a u, fun _ => false)) (m + 1) lo Bd := by
  have ctp := (sy_R_ct Q.1 ha hu).1
  obtain ⟨⟨_, h2, h3, h4, h5, h6, h7, h8, h9, ⟨k1, k2, k3, k4, k5⟩, h11⟩, g, V, J⟩ := Q
  have ne : ∀ i, i ≠ m → ct_ap q m (2, a1, u, ct a u, fun _ => false) i = q i := fun i h => if_neg h
  have es : ct_ap q m (2, a1, u, ct a u, fun _ => false) m = (2, a1, u, ct a u, fun _ => false) := if_pos rfl
  have pm : pl 21 m = none := k4 m (fun h => by omega)
  have J1 := gh_J_mono (pl' := pl) (cb' := sy_cb pr (ct_ap q m (2, a1, u, ct a u, fun _ => false)) ty_e) (cx' := sy_cx a b ty_e) J (fun h k v hv => ⟨hv, by
    unfold gh_ca
    by_cases e : h < 20
    · rw [if_pos e, if_pos e]
    · rw [if_neg e, if_neg e]
      unfold sy_cb
      by_cases e2 : h = 21
      · subst e2
        rw [ne k (fun g => by rw [g, pm] at hv; cases hv)]
      · simp [e2], fun _ => rfl⟩) J.2.2.2.2.2
  have kk : ∀ c o, (sy_K ow ct c o ∧ (c = a → cl o = true)) → sy_K ow (gh_u ct a u 0) c o := fun c o h => by
    by_cases e : c = a ∧ o = u
    · obtain ⟨rfl, rfl⟩ := e
      have := h.2 rfl
      rw [hcl] at this; cases this
    · have := h.1; unfold sy_K at this ⊢; rw [gh_u_n _ _ e]; exact this
  have JA := gh_J_grow (K' := fun b' o => sy_K ow (gh_u ct a u 0) b' o ∧ (b' = a → cl o = true)) (ex' := sy_E ow) J1 (fun c o h => ⟨kk c o h, h.2⟩) (fun _ h => h)
  have JB := gh_J_grow (K' := sy_K ow (gh_u ct a u 0)) (ex' := sy_E ow) J1 kk (fun _ h => h)
  refine ⟨⟨⟨g, V, JB⟩, h2, h3, h4, h5, ct_I_low ha hu h6 (fun c o e => gh_u_n _ _ e) how hne hz (gh_u_s _ _ _ _) rfl rfl rfl rfl, fun o ho hn c hc => ?_, h8, h9, ⟨by omega, fun i hi => ?_, fun i o hi hk ho => ?_, fun i hi => ?_, k5⟩, fun o ho => ?_⟩, g, V, JA⟩
  · have : o ≠ u := fun e => by rw [e, how] at hn; cases hn
    rw [gh_u_n _ _ (fun g => this g.2)]; exact h7 o ho hn c hc
  · by_cases e : i = m
    · subst e; rw [es]; exact ⟨show 2 < 3 by decide, (h8 u a1 how).1, fun g => absurd (show 2 = 0 from g) (by decide), fun g => absurd (show 2 = 1 from g) (by decide), fun _ => ctp⟩
    · rw [ne i e]; exact k2 i (by omega)
  · have e : i ≠ m := fun e => by subst e; rw [es] at hk; exact absurd (show 2 = 0 from hk) (by decide)
    rw [ne i e] at hk ⊢; exact k3 i o (by omega) hk ho
  · by_cases e : i = m
    · subst e; exact pm
    · rw [ne i e] at hi; exact k4 i (fun g => hi ⟨by omega, g.2⟩)
  · have W := h11 o ho
    have e : sy_W (gh_u ct a u 0) (ct_ap q m (2, a1, u, ct a u, fun _ => false)) (m + 1) o = sy_W (gh_u ct a u 0) q m o := by
      unfold sy_W
      congr 1
      show ct_sum _ m + (if (ct_ap q m (2, a1, u, ct a u, fun _ => false) m).1 = 1 ∧ (ct_ap q m (2, a1, u, ct a u, fun _ => false) m).2.2.1 = o then (ct_ap q m (2, a1, u, ct a u, fun _ => false) m).2.2.2.1 else 0) = _
      rw [es, if_neg (fun g => absurd (show 2 = 1 from g.1) (by decide)), Int.add_zero]
      exact ct_sum_eq (fun i hi => by rw [ne i (by omega)])
    rw [e]
    by_cases eo : o = u
    · subst eo
      rw [sy_W_ct (ct := ct) (c := a) (d := - ct a o) ha (by rw [gh_u_s]; omega) (fun e _ he => gh_u_n _ _ (fun g => he g.1))]
      omega
    · rw [sy_W_same (ct := ct) (fun c _ => gh_u_n _ _ (fun g => eo g.2))]; exact W
end
