/-! A message is taken: what is asked stays -/
section
variable {pr : Nat → Nat} {a a0 b0 n nf r : Nat} {pl : Nat → Nat → Option Nat} {ow : Nat → Option Nat} {ct : Nat → Nat → Int} {q : ct_Q} {m : Nat} {lo : Nat → Option Nat} {Bd : Int}
def sy_s (r i : Nat) : Nat := if i < r then i else i + 1
theorem sy_s_inj {r i j : Nat} (h : sy_s r i = sy_s r j) : i = j := by unfold sy_s at h; split at h <;> split at h <;> omega
theorem sy_s_ne {r i : Nat} : sy_s r i ≠ r := by unfold sy_s; split <;> omega
theorem ct_rm_s {r i : Nat} : ct_rm q r i = q (sy_s r i) := by
  unfold sy_s
  by_cases h : i < r
  · rw [if_pos h, ct_rm_lt h]
  · rw [if_neg h, ct_rm_ge (by omega)]
theorem ab_rpl_s {r i : Nat} : ab_rpl r pl 21 i = pl 21 (sy_s r i) := by
  unfold sy_s
  by_cases h : i < r
  · rw [if_pos h, ab_rpl_lt h]
  · rw [if_neg h, ab_rpl_ge (by omega)]
theorem ab_rpl_o {r h k : Nat} (hh : h ≠ 21) : ab_rpl r pl h k = pl h k := if_neg (fun g => hh g.1)
theorem sy_W_rm {o : Nat} (hr : r < m) : sy_W ct (ct_rm q r) (m - 1) o = sy_W ct q m o - (if (q r).1 = 1 ∧ (q r).2.2.1 = o then (q r).2.2.2.1 else 0) := by
  unfold sy_W
  have e : ct_sum (fun i => if (ct_rm q r i).1 = 1 ∧ (ct_rm q r i).2.2.1 = o then (ct_rm q r i).2.2.2.1 else 0) (m - 1) = ct_sum (fun i => if (q i).1 = 1 ∧ (q i).2.2.1 = o then (q i).2.2.2.1 else 0) m - (if (q r).1 = 1 ∧ (q r).2.2.1 = o then (q r).2.2.2.1 else 0) := by
    rw [← ct_sum_rm (f := fun i => if (q i).1 = 1 ∧ (q i).2.2.1 = o then (q i).2.2.2.1 else 0) hr]
    refine ct_sum_eq (fun i hi => ?_)
    by_cases h : i < r
    · rw [if_pos h, ct_rm_lt h]
    · rw [if_neg h, ct_rm_ge (by omega)]
  rw [e]; omega
/-- what is known of the messages that stay -/
theorem sy_M_rm {pl' : Nat → Nat → Option Nat} (hr : r < m) (k1 : m ≤ 20) (k2 : ∀ i, i < m → (q i).1 < 3 ∧ (q i).2.1 < n ∧ ((q i).1 = 0 → (q i).2.2.1 < nf) ∧ ((q i).1 = 1 → (q i).2.2.2.1 = 8) ∧ ((q i).1 = 2 → 0 ≤ (q i).2.2.2.1)) (k3 : ∀ i o, i < m → (q i).1 = 0 → o < 16 → ((q i).2.2.2.2 o = true ↔ ∃ v, pl 21 i = some v ∧ gh_cl pl v (pr (q i).2.2.1) o)) (k4 : ∀ i, ¬ (i < m ∧ (q i).1 = 0) → pl 21 i = none) (k5 : ∀ i v, pl 21 i = some v → v < 16) (h21 : ∀ i, pl' 21 i = pl 21 (sy_s r i)) (hob : ∀ p k, p < 16 → pl' p k = pl p k) : m - 1 ≤ 20 ∧ (∀ i, i < m - 1 → (ct_rm q r i).1 < 3 ∧ (ct_rm q r i).2.1 < n ∧ ((ct_rm q r i).1 = 0 → (ct_rm q r i).2.2.1 < nf) ∧ ((ct_rm q r i).1 = 1 → (ct_rm q r i).2.2.2.1 = 8) ∧ ((ct_rm q r i).1 = 2 → 0 ≤ (ct_rm q r i).2.2.2.1)) ∧ (∀ i o, i < m - 1 → (ct_rm q r i).1 = 0 → o < 16 → ((ct_rm q r i).2.2.2.2 o = true ↔ ∃ v, pl' 21 i = some v ∧ gh_cl pl' v (pr (ct_rm q r i).2.2.1) o)) ∧ (∀ i, ¬ (i < m - 1 ∧ (ct_rm q r i).1 = 0) → pl' 21 i = none) ∧ (∀ i v, pl' 21 i = some v → v < 16) := by
  have slt : ∀ i, i < m - 1 → sy_s r i < m := fun i hi => by unfold sy_s; split <;> omega
  have cle : ∀ v c o, gh_cl pl' v c o ↔ gh_cl pl v c o := fun v c o => gh_cl_eq (fun _ p k _ hp => hob p k hp)
  refine ⟨by omega, fun i hi => by rw [ct_rm_s]; exact k2 _ (slt i hi), fun i o hi hk ho => ?_, fun i hi => ?_, fun i v hv => k5 _ v (by rw [← h21]; exact hv)⟩
  · rw [ct_rm_s] at hk ⊢
    rw [k3 _ o (slt i hi) hk ho, h21]
    constructor
    · rintro ⟨v, g1, g2⟩; exact ⟨v, g1, (cle _ _ _).mpr g2⟩
    · rintro ⟨v, g1, g2⟩; exact ⟨v, g1, (cle _ _ _).mp g2⟩
  · rw [h21]
    refine k4 _ (fun g => hi ⟨?_, by rw [ct_rm_s]; exact g.2⟩)
    have := g.1
    unfold sy_s at this; split at this <;> omega
/-- a raise or a lower -/
theorem sy_rl (R : sy_R a0 b0 n nf pr ty_e pl ow ct q m lo Bd) (ha : a < n) (hr : r < m) (hf : ∀ i, i < r → (q i).2.1 ≠ a) (hw : (q r).2.1 = a) (hk : (q r).1 ≠ 0) : sy_R a0 b0 n nf pr ty_e (ab_rpl r pl) ow (gh_u ct a (q r).2.2.1 (ct a (q r).2.2.1 + (if (q r).1 = 1 then (q r).2.2.2.1 else - (q r).2.2.2.1))) (ct_rm q r) (m - 1) lo Bd := by
  obtain ⟨⟨g, V, J⟩, h2, h3, h4, h5, h6, h7, h8, h9, ⟨k1, k2, k3, k4, k5⟩, h11⟩ := R
  obtain ⟨o16, oow⟩ := h6.2.1 r hr hk
  rw [hw] at oow
  have I' := ct_I_rl (ct' := gh_u ct a (q r).2.2.1 (ct a (q r).2.2.1 + (if (q r).1 = 1 then (q r).2.2.2.1 else - (q r).2.2.2.1))) (by omega) hr hf hw hk h6 (gh_u_s _ _ _ _) (fun c o g => gh_u_n _ _ g)
  have J1 := gh_J_grow (K' := sy_K ow (gh_u ct a (q r).2.2.1 (ct a (q r).2.2.1 + (if (q r).1 = 1 then (q r).2.2.2.1 else - (q r).2.2.2.1)))) (ex' := sy_E ow) J (fun c u h => by
    rcases h with h | ⟨h, h'⟩
    · exact Or.inl h
    · by_cases e : c = a ∧ u = (q r).2.2.1
      · obtain ⟨rfl, rfl⟩ := e; exact Or.inl oow
      · exact Or.inr ⟨h, by rw [gh_u_n _ _ e]; exact h'⟩) (fun _ h => h)
  have J2 := gh_J_ren (pl' := ab_rpl r pl) (cb' := sy_cb pr (ct_rm q r) ty_e) (sy_s r) J1 (fun i j h => sy_s_inj h) (fun _ => rfl) (fun h k hh => ab_rpl_o hh) (fun h k hh => by unfold sy_cb; simp [hh]) (fun i t ht => ⟨by rw [ab_rpl_s] at ht; exact ht, by unfold sy_cb; simp [ct_rm_s]⟩)
  refine ⟨⟨g, V, J2⟩, fun x => by rw [ab_rpl_o (by decide)]; exact h2 x, h3, fun h k hh => by rw [ab_rpl_o (by omega)]; exact h4 h k hh, fun h k v hh hv => by rw [ab_rpl_o (by omega)] at hv; exact h5 h k v hh hv, I', fun o ho hn c hc => ?_, h8, h9, sy_M_rm hr k1 k2 k3 k4 k5 (fun i => ab_rpl_s) (fun p k hp => ab_rpl_o (by omega)), fun o ho => ?_⟩
  · have : o ≠ (q r).2.2.1 := by rintro rfl; rw [oow] at hn; cases hn
    rw [gh_u_n _ _ (fun g => this g.2)]; exact h7 o ho hn c hc
  · have W := h11 o ho
    rw [sy_W_rm hr]
    by_cases e : o = (q r).2.2.1
    · subst e
      rw [sy_W_ct (ct := ct) (c := a) (d := if (q r).1 = 1 then (q r).2.2.2.1 else - (q r).2.2.2.1) (by omega) (gh_u_s _ _ _ _) (fun e _ he => gh_u_n _ _ (fun g => he g.1))]
      obtain ⟨l3, _, _, _, l2⟩ := k2 r hr
      by_cases e1 : (q r).1 = 1
      · simp [e1]; omega
      · have := l2 (by omega)
        simp [e1]; omega
    · rw [sy_W_same (ct := ct) (fun c _ => gh_u_n _ _ (fun g => e g.2)), if_neg (fun g => e g.2.symm)]; omega
/-- a call -/
theorem sy_call (R : sy_R a0 b0 n nf pr ty_e pl ow ct q m lo Bd) (hpr : ∀ b, b < nf → st_sn (pr b) = true) (ha : a < n) (hr : r < m) (hf : ∀ i, i < r → (q i).2.1 ≠ a) (hw : (q r).2.1 = a) (hk : (q r).1 = 0) : ∃ b', sy_R a b' n nf pr (ty_0 (pr (q r).2.2.1)) (gh_u (ab_rpl r pl) 20 0 (pl 21 r)) ow (ab_tu 0 (q r).2.2.2.2 ow a ct) (ct_rm q r) (m - 1) (fun x => if x = 0 then pl 21 r else none) (Bd + 1) := by
  obtain ⟨⟨g, V, J⟩, h2, h3, h4, h5, h6, h7, h8, h9, ⟨k1, k2, k3, k4, k5⟩, h11⟩ := R
  obtain ⟨b', _, hfr⟩ := gh_fresh g b0
  have tu : ∀ o, o < 16 → ab_tu 0 (q r).2.2.2.2 ow a ct a o = ct a o + (if (q r).2.2.2.2 o = true then (if ow o = some a then -1 else 1) else 0) := by
    intro o ho; unfold ab_tu
    by_cases e : (q r).2.2.2.2 o = true
    · rw [if_pos ⟨rfl, Nat.zero_le _, ho, e⟩, if_pos e]
    · rw [if_neg (fun g => e g.2.2.2), if_neg e]; omega
  have tn : ∀ c o, c ≠ a → ab_tu 0 (q r).2.2.2.2 ow a ct c o = ct c o := fun c o h => by unfold ab_tu; rw [if_neg (fun g => h g.1)]
  have I' := ct_I_tk (ct' := ab_tu 0 (q r).2.2.2.2 ow a ct) (show a < 4 by omega) hr hf hw hk h6 tu (fun c o _ h => tn c o h)
  have p20 : ∀ x, pl 20 x = none := fun x => by rw [h2 x]; simp [ty_e]
  have J0 := gh_J_rest (a' := a) (b' := b') J (fun h k h1 h2' => by
    by_cases e : h = 20
    · subst e; exact p20 k
    · exact h4 h k (by omega)) (fun _ => rfl) hfr
  have J1 := gh_J_grow (K' := sy_K ow (ab_tu 0 (q r).2.2.2.2 ow a ct)) (ex' := sy_E ow) J0 (fun c u h => by
    rcases h with h | ⟨h, h'⟩
    · exact Or.inl h
    · by_cases e : c = a
      · subst e
        by_cases eo : ow u = some c
        · exact Or.inl eo
        · have u16 : u < 16 := by
            cases e2 : ow u with
            | none => exact absurd e2 h
            | some a' => exact (h8 u a' e2).2
          refine Or.inr ⟨h, ?_⟩
          rw [tu u u16, if_neg eo]; split <;> omega
      · exact Or.inr ⟨h, by rw [tn c u e]; exact h'⟩) (fun _ h => h)
  have G : ∃ g V, gh_J a b' (sy_K ow (ab_tu 0 (q r).2.2.2.2 ow a ct)) (sy_E ow) (gh_u (gh_u pl 21 r none) 20 0 (pl 21 r)) (gh_u (sy_cb pr q ty_e) 20 0 (pr (q r).2.2.1)) (gh_c0 a) g V := by
    cases hv : pl 21 r with
    | none =>
      have Jr := gh_J_rm J1 21 r
      refine ⟨g, V, gh_J_mono Jr (fun h k u hu => ?_) Jr.2.2.2.2.2⟩
      have hk' : ¬ (h = 20 ∧ k = 0) := by rintro ⟨rfl, rfl⟩; rw [gh_u_s] at hu; cases hu
      rw [gh_u_n _ _ hk'] at hu
      exact ⟨hu, by unfold gh_ca; rw [gh_u_n _ _ hk'], fun _ => rfl⟩
    | some v =>
      obtain ⟨g', V', J2⟩ := gh_st_take (m := r) (c := pr (q r).2.2.1) J1 hv (by unfold sy_cb; simp) (sy_sn' (hpr _ ((k2 r hr).2.2.1 hk))) (fun o hc => by
        -- it is in the closure, so a owns it or counts it now
        by_cases o16 : o < 16
        · have c1 : (q r).2.2.2.2 o = true := (k3 r o hr hk o16).mpr ⟨v, hv, hc⟩
          by_cases eo : ow o = some a
          · exact Or.inl eo
          · have en := h6.2.2.1 r o hr hk o16 c1
            refine Or.inr ⟨en, ?_⟩
            rw [tu o o16, if_pos c1, if_neg eo]
            cases e2 : ow o with
            | none => exact absurd e2 en
            | some a' => have := (h6.1 o a' o16 e2).2.1 a (by omega); omega
        · rcases hc with e | ⟨_, p, k, _, hp, hu⟩
          · rw [e] at o16; exact absurd (k5 r v hv) o16
          · exact absurd (h5 p k o (by omega) hu).1 o16)
      exact ⟨g', V', J2⟩
  obtain ⟨g', V', J2⟩ := G
  have ec : sy_cx a b' (ty_0 (pr (q r).2.2.1)) = gh_c0 a := by funext h k; unfold sy_cx ty_0 gh_c0; simp
  have J3 := gh_J_ren (pl' := gh_u (ab_rpl r pl) 20 0 (pl 21 r)) (cb' := sy_cb pr (ct_rm q r) (ty_0 (pr (q r).2.2.1))) (sy_s r) J2 (fun i j h => sy_s_inj h) (fun _ => rfl) (fun h k hh => by
    by_cases e : h = 20 ∧ k = 0
    · obtain ⟨rfl, rfl⟩ := e; rw [gh_u_s, gh_u_s]
    · rw [gh_u_n _ _ e, gh_u_n _ _ e, ab_rpl_o hh, gh_u_n _ _ (fun g => hh g.1)]) (fun h k hh => by
    by_cases e : h = 20 ∧ k = 0
    · obtain ⟨rfl, rfl⟩ := e; rw [gh_u_s]; unfold sy_cb ty_0; simp
    · rw [gh_u_n _ _ e]
      unfold sy_cb ty_0 ty_e
      by_cases e2 : h = 20
      · subst e2
        have : k ≠ 0 := fun g => e ⟨rfl, g⟩
        simp [this]
      · simp [e2, hh]) (fun i t ht => by
    rw [sy_u20 (by decide), ab_rpl_s] at ht
    refine ⟨by rw [sy_u20 (by decide), gh_u_n _ _ (fun g => sy_s_ne g.2)]; exact ht, ?_⟩
    rw [gh_u_n _ _ (by omega)]
    unfold sy_cb; simp [ct_rm_s])
  refine ⟨b', ⟨g', V', by rw [ec]; exact J3⟩, fun x => ?_, fun x v hv => ?_, fun h k hh => by rw [sy_u20 (by omega), ab_rpl_o (by omega)]; exact h4 h k hh, fun h k v hh hv => by rw [sy_u20 (by omega), ab_rpl_o (by omega)] at hv; exact h5 h k v hh hv, I', fun o ho hn c hc => ?_, h8, h9, sy_M_rm hr k1 k2 k3 k4 k5 (fun i => by rw [sy_u20 (by decide), ab_rpl_s]) (fun p k hp => by rw [sy_u20 (by omega), ab_rpl_o (by omega)]), fun o ho => ?_⟩
  · by_cases e : x = 0
    · subst e; rw [gh_u_s]; simp [ty_0]
    · rw [gh_u_n _ _ (fun g => e g.2), ab_rpl_o (by decide), p20 x]; simp [ty_0, e]
  · by_cases e : x = 0
    · simp [e] at hv; exact k5 r v hv
    · simp [e] at hv
  · by_cases e : c = a
    · subst e
      rw [tu o ho]
      have : ¬ (q r).2.2.2.2 o = true := fun g => h6.2.2.1 r o hr hk ho g hn
      rw [if_neg this, h7 o ho hn c hc]; rfl
    · rw [tn c o e]; exact h7 o ho hn c hc
  · have W := h11 o ho
    rw [sy_W_rm hr, if_neg (fun g => by omega), sy_W_ct (ct := ct) (c := a) (d := if (q r).2.2.2.2 o = true then (if ow o = some a then -1 else 1) else 0) (by omega) (tu o ho) (fun e _ he => tn e o he)]
    split
    · split <;> omega
    · omega
end
