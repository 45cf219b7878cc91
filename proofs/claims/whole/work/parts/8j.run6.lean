/-! SEND, whole -/
section
variable {pl pl' : Nat → Nat → Option Nat} {ow : Nat → Option Nat} {ct : Nat → Nat → Int} {q : ct_Q} {m : Nat} {lo lo' : Nat → Option Nat} {a b n nf to : Nat} {pr : Nat → Nat} {t t' : ty_T} {Bd : Int} {x y f z c : Nat} {cl : Nat → Bool}
/-- what is sent, and its closure, is held by the sender; what is met is there -/
theorem sy_snd {cz : Nat} (R : sy_R a b n nf pr t pl ow ct q m lo Bd) (hz : z < 6) (hw : ty_w t) (hcz : t.1 z = some cz) (hsu : gh_su cz c) : (∀ v o, lo z = some v → gh_cl pl v c o → sy_K ow ct a o ∧ o < 16) ∧ ∀ v p, lo z = some v → c < 5 → gh_dp pl v p → ow p ≠ none := by
  obtain ⟨g, V, J⟩ := R.1
  have hpl := sy_tt R hz (by rw [hcz]; simp)
  have e1 : sy_cb pr q t 20 z = cz := by unfold sy_cb; simp [hcz]
  have c5 : c < 5 → cz < 5 := by
    have := hw.1 z cz hcz
    unfold gh_su at hsu; omega
  have base : ∀ v, lo z = some v → sy_K ow ct a v ∧ (c < 5 → V a v) := by
    intro v hv
    have hR := J.2.2.1.2 a 20 z v (Or.inr ⟨rfl, by decide, by decide⟩) (by rw [hpl]; exact hv)
    rw [gh_ca20, e1] at hR
    exact ⟨hR.1, fun h => hR.2 (c5 h)⟩
  have Kex : ∀ o, sy_K ow ct a o → ow o ≠ none := by
    rintro o (h | h)
    · rw [h]; simp
    · exact h.1
  refine ⟨fun v o hv ho => ?_, fun v p hv h5 hd => ?_⟩
  · obtain ⟨k1, k2⟩ := base v hv
    have K := gh_J_cl J k1 k2 ho
    refine ⟨K, ?_⟩
    have := Kex o K
    cases e : ow o with
    | none => exact absurd e this
    | some a' => exact (R.2.2.2.2.2.2.2.1 o a' e).2
  · obtain ⟨k1, k2⟩ := base v hv
    have hV : V a p := gh_dp_ind (fun x => V a x) (k2 h5) (fun p k u _ hq h16 hk hu => ((J.2.2.1.1 a p h16 hq).2 k u hu).2 hk) hd
    rcases J.2.1.2 a p hV with e | e
    · exact (J.2.2.2.1 p (by rw [e]; intro g; cases g)).2
    · exact (J.2.2.2.1 p (by intro g; rw [g] at e; simp [gh_D] at e)).2
theorem sy_em_cb {h k : Nat} (hk : ¬ (h = 20 ∧ k = z)) : sy_cb pr q (ty_em z t) h k = sy_cb pr q t h k := by
  unfold sy_cb ty_em
  by_cases e : h = 20
  · subst e
    have : k ≠ z := fun g => hk ⟨rfl, g⟩
    simp [this]
  · simp [e]
/-- lost -/
theorem rn_8l (R : sy_R a b n nf pr t pl ow ct q m lo Bd) : sy_R a b n nf pr (ty_em z t) (gh_u pl 20 z none) ow ct q m lo Bd := by
  obtain ⟨g, V, J⟩ := R.1
  refine sy_R_pl R ⟨g, V, ?_⟩ (fun k => ?_) R.2.2.1 (fun h k hh => ?_) (fun h k w hh hk => ?_) (fun i => sy_u20 (by decide)) (fun i w _ _ _ _ p k _ hp => sy_u20 (by omega))
  · have J' := gh_J_rm J 20 z
    refine gh_J_mono J' (fun h k u hu => ⟨hu, ?_, fun _ => rfl⟩) J'.2.2.2.2.2
    have hk : ¬ (h = 20 ∧ k = z) := by rintro ⟨rfl, rfl⟩; rw [gh_u_s] at hu; cases hu
    unfold gh_ca; rw [sy_em_cb hk]
  · by_cases e : k = z
    · subst e; rw [gh_u_s]; simp [ty_em]
    · rw [gh_u_n _ _ (by omega), R.2.1 k]; simp [ty_em, e]
  · rw [sy_u20 (by omega)]; exact R.2.2.2.1 h k hh
  · rw [sy_u20 (by omega)] at hk; exact R.2.2.2.2.1 h k w hh hk
/-- sent -/
theorem rn_8 {cz : Nat} (R : sy_R a b n nf pr t pl ow ct q m lo Bd) (hpr : ∀ b, b < nf → st_sn (pr b) = true) (ha : a < n) (hto : to < n) (hy : y < nf) (hz : z < 6) (hw : ty_w t) (hcz : t.1 z = some cz) (hsu : gh_su cz (pr y)) (hcl : ∀ o, o < 16 → (cl o = true ↔ ∃ v, lo z = some v ∧ gh_cl pl v (pr y) o)) (hcl16 : ∀ o, 16 ≤ o → cl o = false) (hroom : (ab_pays cl ow a 16 0 (ct, q, m)).2.2 < 20) : sy_R a b n nf pr (ty_em z t) (gh_u (gh_u pl 20 z none) 21 (ab_pays cl ow a 16 0 (ct, q, m)).2.2 (lo z)) ow (ab_pays cl ow a 16 0 (ct, q, m)).1 (ct_ap (ab_pays cl ow a 16 0 (ct, q, m)).2.1 (ab_pays cl ow a 16 0 (ct, q, m)).2.2 (0, to, y, 0, cl)) ((ab_pays cl ow a 16 0 (ct, q, m)).2.2 + 1) lo (Bd + 15) := by
  have hsnd := sy_snd R hz hw hcz hsu
  have hpl := sy_tt R hz (by rw [hcz]; simp)
  obtain ⟨⟨g, V, J⟩, h2, h3, h4, h5, h6, h7, h8, h9, ⟨k1, k2, k3, k4, k5⟩, h11⟩ := R
  have P := sy_pays (cl := cl) (to := to) h9 ha (fun o a h => (h8 o a h).1) (ct_I_d to h6) (fun o ho hc => by
    obtain ⟨v, g1, g2⟩ := (hcl o ho).mp hc
    exact (hsnd.1 v o g1 g2).1)
  generalize ab_pays cl ow a 16 0 (ct, q, m) = s at P hroom ⊢
  obtain ⟨p1, p2, p3, p4, p5, p6, p7⟩ := P
  have epd : (fun o => decide (o < 16) && cl o) = cl := by
    funext o
    by_cases e : o < 16
    · simp [e]
    · simp [e, hcl16 o (by omega)]
  rw [epd] at p6
  have I' := ct_I_d 0 (ct_I_call (x := (0, to, y, 0, cl)) p6 rfl rfl rfl)
  have cn : ∀ c o, c ≠ a → s.1 c o = ct c o := fun c o h => p4 c o (fun e => h e.1)
  have J1 := gh_J_grow (K' := sy_K ow s.1) (ex' := sy_E ow) J (fun c u h => by
    rcases h with h | ⟨h, h'⟩
    · exact Or.inl h
    · refine Or.inr ⟨h, ?_⟩
      by_cases e : c = a
      · subst e; exact p5 u h'
      · rw [cn c u e]; exact h') (fun _ h => h)
  have m21 : pl 21 s.2.2 = none := k4 _ (by omega)
  have e1 : sy_cb pr q t 20 z = cz := by unfold sy_cb; simp [hcz]
  -- the ghosts
  have G : ∃ g V, gh_J a b (sy_K ow s.1) (sy_E ow) (gh_u (gh_u pl 20 z none) 21 s.2.2 (lo z)) (gh_u (sy_cb pr q t) 21 s.2.2 (pr y)) (sy_cx a b t) g V := by
    cases hv : lo z with
    | none =>
      refine ⟨g, V, gh_J_mono (gh_J_rm J1 20 z) (fun h k u hu => ?_) J1.2.2.2.2.2⟩
      have hk : ¬ (h = 21 ∧ k = s.2.2) := by rintro ⟨rfl, rfl⟩; rw [gh_u_s] at hu; cases hu
      rw [gh_u_n _ _ hk] at hu
      exact ⟨hu, by unfold gh_ca; rw [gh_u_n _ _ hk], fun _ => rfl⟩
    | some v =>
      have ht : pl 20 z = some v := by rw [hpl]; exact hv
      rcases sy_sn' (hpr y hy) with e | e | e
      · have cz0 : cz = 0 := by rw [e] at hsu; unfold gh_su at hsu; omega
        obtain ⟨g', V', J'⟩ := gh_st_iso (m := s.2.2) J1 ht (by rw [e1]; exact cz0) rfl
        rw [e]; exact ⟨g', V', J'⟩
      · obtain ⟨g', J'⟩ := gh_st_send (m := s.2.2) (c := 3) J1 ht rfl (Or.inr ⟨rfl, by rw [e1]; rw [e] at hsu; unfold gh_su at hsu; omega⟩)
        rw [e]; exact ⟨g', V, J'⟩
      · obtain ⟨g', J'⟩ := gh_st_send (m := s.2.2) (c := 5) J1 ht rfl (Or.inl rfl)
        rw [e]; exact ⟨g', V, J'⟩
  obtain ⟨g', V', J'⟩ := G
  have u21 : ∀ h k, h ≠ 21 → gh_u (gh_u pl 20 z none) 21 s.2.2 (lo z) h k = gh_u pl 20 z none h k := fun h k e => gh_u_n _ _ (fun g => e g.1)
  have po : ∀ p k, p < 16 → gh_u (gh_u pl 20 z none) 21 s.2.2 (lo z) p k = pl p k := fun p k hp => by rw [u21 p k (by omega), sy_u20 (by omega)]
  have q21 : ∀ i, i ≠ s.2.2 → gh_u (gh_u pl 20 z none) 21 s.2.2 (lo z) 21 i = pl 21 i := fun i e => by rw [gh_u_n _ _ (fun g => e g.2), sy_u20 (by decide)]
  have clo : ∀ v cc o, gh_cl (gh_u (gh_u pl 20 z none) 21 s.2.2 (lo z)) v cc o ↔ gh_cl pl v cc o := fun v cc o => gh_cl_eq (fun _ p k _ hp => po p k hp)
  have qi : ∀ i, i < s.2.2 → ct_ap s.2.1 s.2.2 (0, to, y, 0, cl) i = s.2.1 i := fun i hi => ct_ap_n (by omega)
  refine ⟨⟨g', V', gh_J_mono J' (fun h k u hu => ⟨hu, ?_, fun _ => rfl⟩) J'.2.2.2.2.2⟩, fun k => ?_, h3, fun h k hh => ?_, fun h k w hh hk => ?_, I', fun o ho hn c hc => ?_, h8, h9, ⟨by omega, fun i hi => ?_, fun i o hi hk ho => ?_, fun i hi => ?_, fun i w hw' => ?_⟩, fun o ho => ?_⟩
  · by_cases hm : h = 21 ∧ k = s.2.2
    · obtain ⟨rfl, rfl⟩ := hm
      unfold gh_ca; rw [gh_u_s]; unfold sy_cb; simp [ct_ap_s]
    · have hu' := hu
      rw [gh_u_n _ _ hm] at hu'
      have hk : ¬ (h = 20 ∧ k = z) := by rintro ⟨rfl, rfl⟩; rw [gh_u_s] at hu'; cases hu'
      unfold gh_ca; rw [gh_u_n _ _ hm]
      by_cases h20 : h < 20
      · rw [if_pos h20, if_pos h20]
      · rw [if_neg h20, if_neg h20]
        by_cases e : h = 21
        · subst e
          have hu2 : pl 21 k = some u := by rw [sy_u20 (by decide)] at hu'; exact hu'
          have hkm : k < m ∧ (q k).1 = 0 := Classical.byContradiction (fun g => by rw [k4 k g] at hu2; cases hu2)
          unfold sy_cb
          simp only []
          rw [qi k (by omega), p2 k hkm.1]
          simp
        · rw [sy_em_cb hk]; unfold sy_cb; simp [e]
  · rw [u21 20 k (by decide)]
    by_cases e : k = z
    · subst e; rw [gh_u_s]; simp [ty_em]
    · rw [gh_u_n _ _ (by omega), h2 k]; simp [ty_em, e]
  · rw [u21 h k (by omega), sy_u20 (by omega)]; exact h4 h k hh
  · rw [u21 h k (by omega), sy_u20 (by omega)] at hk; exact h5 h k w hh hk
  · by_cases e : c = a
    · subst e
      have i := p6.2.2.2
      by_cases hc1 : cl o = true
      · exact absurd hn (i o ho hc1)
      · rw [p4 c o (fun g => hc1 g.2.2)]; exact h7 o ho hn c hc
    · rw [cn c o e]; exact h7 o ho hn c hc
  · by_cases e : i = s.2.2
    · subst e; rw [ct_ap_s]; exact ⟨by simp, hto, fun _ => hy, fun h => by simp at h, fun h => by simp at h⟩
    · rw [qi i (by omega)]
      by_cases im : i < m
      · rw [p2 i im]; exact k2 i im
      · obtain ⟨r1, r2, r3⟩ := p3 i (by omega) (by omega)
        exact ⟨by omega, r2, fun h => by omega, fun _ => r3, fun h => by omega⟩
  · by_cases e : i = s.2.2
    · subst e
      rw [ct_ap_s]
      show cl o = true ↔ ∃ v, gh_u (gh_u pl 20 z none) 21 s.2.2 (lo z) 21 s.2.2 = some v ∧ gh_cl _ v (pr y) o
      rw [gh_u_s, hcl o ho]
      constructor
      · rintro ⟨v, g1, g2⟩; exact ⟨v, g1, (clo _ _ _).mpr g2⟩
      · rintro ⟨v, g1, g2⟩; exact ⟨v, g1, (clo _ _ _).mp g2⟩
    · have hi' : i < s.2.2 := by omega
      rw [qi i hi'] at hk ⊢
      by_cases im : i < m
      · rw [p2 i im] at hk ⊢
        rw [k3 i o im hk ho, q21 i e]
        constructor
        · rintro ⟨v, g1, g2⟩; exact ⟨v, g1, (clo _ _ _).mpr g2⟩
        · rintro ⟨v, g1, g2⟩; exact ⟨v, g1, (clo _ _ _).mp g2⟩
      · have := (p3 i (by omega) hi').1; omega
  · by_cases e : i = s.2.2
    · subst e; exact absurd ⟨by omega, by rw [ct_ap_s]⟩ hi
    · rw [q21 i e]
      refine k4 i (fun g => hi ⟨by omega, ?_⟩)
      rw [ct_ap_n e, p2 i g.1]; exact g.2
  · by_cases e : i = s.2.2
    · subst e; rw [gh_u_s] at hw'; exact h3 z w hw'
    · rw [q21 i e] at hw'; exact k5 i w hw'
  · rw [sy_W_ap, if_neg (show ¬ ((0 : Nat) = 1 ∧ y = o) from fun g => by omega)]
    have w1 := p7 o ho
    have w2 := h11 o ho
    rw [if_pos ho] at w1
    omega
end
