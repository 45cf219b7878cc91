/-! A reference goes from one place to another -/
def gh_al (c : Nat) : Nat := if c = 0 then 5 else if c = 1 then 4 else c
def gh_vw (c f : Nat) : Nat := if f = 5 then 5 else if f = 3 then 3 else if c = 3 then 3 else if c = 2 then f else if c = 0 then (if f = 0 then 0 else 5) else if c = 1 then (if f = 0 then 0 else 4) else (if f = 0 then 5 else 4)
def gh_dw (c f : Nat) : Nat := if c = 2 then f else if f = 0 then 0 else if f = 1 ∨ f = 3 then 3 else if f = 5 then 5 else if c = 0 then 5 else 4
def gh_su (c f : Nat) : Prop := c = 0 ∨ (c = 1 ∧ f ≠ 0) ∨ (c = 2 ∧ (f = 2 ∨ f = 4 ∨ f = 5)) ∨ (c = 3 ∧ (f = 3 ∨ f = 4 ∨ f = 5)) ∨ (c = 4 ∧ (f = 4 ∨ f = 5)) ∨ (c = 5 ∧ f = 5)
def gh_sa (s c : Nat) : Prop := c = 2 ∨ s = 0 ∨ s = 3 ∨ s = 5 ∨ (c = 1 ∧ s = 1)
/-- a reference by c in the cell P may become one by f in the cell Q -/
def gh_tr (c f : Nat) (P Q : gh_P) : Prop := f = 5 ∨ (c = 0 ∧ f < 5) ∨ (c = 1 ∧ (f = 1 ∨ f = 2) ∧ ∃ q, gh_T q ∧ Q = q ++ P) ∨ (c = 1 ∧ (f = 3 ∨ f = 4)) ∨ (c = 2 ∧ f = 2 ∧ Q = P) ∨ (c = 2 ∧ f = 4 ∧ ∃ q, gh_T q ∧ P = q ++ Q) ∨ (c = 3 ∧ (f = 3 ∨ f = 4)) ∨ (c = 4 ∧ f = 4 ∧ ∃ q, gh_T q ∧ P = q ++ Q)
section
variable {a b : Nat} {K : Nat → Nat → Prop} {ex : Nat → Prop} {pl pl' : Nat → Nat → Option Nat} {cb cb' : Nat → Nat → Nat} {cx cx' : Nat → Nat → gh_P} {g : Nat → gh_P} {V : Nat → Nat → Prop}
theorem gh_last_cons {l : Nat × Nat} {P : gh_P} (h : P ≠ []) : (l :: P).getLast? = P.getLast? := gh_last_app (q := [l]) h
theorem gh_J_ex (H : gh_J a b K ex pl cb cx g V) {h k t : Nat} (ht : pl h k = some t) (hc : gh_ca cb h k < 5) (hv : gh_ce g cx h k ≠ gh_D) : t < 16 ∧ ex t := by
  refine H.2.2.2.1 t (fun e => ?_)
  have := H.1.1 h k t ht
  rw [e] at this
  rcases gh_E_D this with h' | h'
  · omega
  · exact hv h'
theorem gh_J_mv {h k t h1 k1 f : Nat} {Q : gh_P} (H : gh_J a b K ex pl cb cx g V) (ht : pl h k = some t) (hc : gh_ca cb h k < 2) (hv : gh_lv (gh_ce g cx h k)) (hne : gh_ce g cx h k ≠ []) (hQ : gh_ce g cx h1 k1 = Q) (hQo : gh_ok Q) (hQn : ¬ g t <:+ Q) (hL : (gh_ce g cx h k).getLast? = Q.getLast?) (hf : f < 2 ∧ gh_ca cb h k = 0 ∨ (f = 1 ∧ gh_ca cb h k = 1 ∧ ∃ q, gh_T q ∧ Q = q ++ gh_ce g cx h k)) (hcb : ∀ x y, ¬ (x = h1 ∧ y = k1) → gh_ca cb' x y = gh_ca cb x y) (hcf : gh_ca cb' h1 k1 = f) (hK : ∀ b, (h1 < 16 ∧ V b h1 ∨ gh_wh a b h1) → K b t ∧ (f < 5 → V b t)) : ∃ g', gh_J a b K ex (gh_u (gh_u pl h k none) h1 k1 (some t)) cb' cx g' V ∧ ∀ o, ¬ g t <:+ g o → g' o = g o := by
  obtain ⟨n, hnb, hn⟩ := gh_fresh g b
  obtain ⟨l, hl, hp⟩ := gh_e_lbl hc hv (H.1.1 h k t ht)
  have hEo : gh_ok ((f + 1, n) :: Q) := gh_ok_app hQo [(f + 1, n)]
  obtain ⟨J, hd, hlv, hce⟩ := gh_J_s (E := (f + 1, n) :: Q) H ht hc hv hEo (by rw [hp, gh_last_cons hne, hL, gh_last_cons (gh_ok_ne hQo)]) (by
    intro h1c
    rcases hf with ⟨_, h0⟩ | ⟨rfl, _, q, hq, e⟩
    · omega
    · exact ⟨(2, n) :: q, gh_T_cons.mpr ⟨rfl, hq⟩, by rw [e]; rfl⟩)
  have hgt : gh_s (g t) ((f + 1, n) :: Q) (g t) = (f + 1, n) :: Q := gh_s_y (g t) _ []
  refine ⟨_, gh_J_set (t := t) J hcb hcf ?_ (fun hf2 => ⟨?_, fun x y u hu hc' hv' hn' => ?_⟩) hK, fun o ho => gh_s_n ho⟩
  · rw [hce, hQ, gh_s_n hQn]
    show gh_E f Q (gh_s (g t) ((f + 1, n) :: Q) (g t))
    rw [hgt]
    refine Or.inr (Or.inr (Or.inr ⟨gh_ok_lv hQo, ?_⟩))
    rcases hf with ⟨h0, _⟩ | ⟨h0, _⟩
    · rcases (show f = 0 ∨ f = 1 by omega) with rfl | rfl
      · exact Or.inl ⟨rfl, n, rfl⟩
      · exact Or.inr (Or.inl ⟨rfl, n, rfl⟩)
    · subst h0; exact Or.inr (Or.inl ⟨rfl, n, rfl⟩)
  · show gh_n (gh_s (g t) ((f + 1, n) :: Q) (g t)) ≠ _
    rw [hgt]
    intro e; injection e with e; exact hnb e
  · show gh_n (gh_s (g t) _ (g u)) ≠ gh_n (gh_s (g t) _ (g t))
    have hv2 := hlv x y hv'
    rw [hgt, hd x y u hu hc' hv2]
    have hJ := gh_J_rm H h k
    obtain ⟨m, _, hm⟩ := gh_e_lbl hc' hv2 (hJ.1.1 x y u hu)
    have hu16 := (gh_J_ex hJ hu (by omega) hv2.2).1
    rw [hm]
    intro e
    have e' : m.2 = n := by injection e
    exact hn u hu16 m (by rw [hm]; exact List.mem_cons_self) e'
/-- the whole of it: what a place has goes to another place, by a capability that fits -/
theorem gh_J_give {h k t h1 k1 f : Nat} {Q : gh_P} (H : gh_J a b K ex pl cb cx g V) (ht : pl h k = some t) (hv : gh_lv (gh_ce g cx h k)) (hne : gh_ce g cx h k ≠ []) (hQ : gh_ce g cx h1 k1 = Q) (hQo : gh_ok Q) (hQn : gh_ca cb h k < 2 → ¬ g t <:+ Q) (hL : (gh_ce g cx h k).getLast? = Q.getLast?) (hf : gh_tr (gh_ca cb h k) f (gh_ce g cx h k) Q) (hcb : ∀ x y, ¬ (x = h1 ∧ y = k1) → gh_ca cb' x y = gh_ca cb x y) (hcf : gh_ca cb' h1 k1 = f) (hK : ∀ b, (h1 < 16 ∧ V b h1 ∨ gh_wh a b h1) → K b t ∧ (f < 5 → V b t)) : ∃ g', gh_J a b K ex (gh_u (gh_u pl h k none) h1 k1 (some t)) cb' cx g' V ∧ ∀ o, (gh_ca cb h k < 2 → ¬ g t <:+ g o) → g' o = g o := by
  have plain : 2 ≤ f → gh_E f Q (g t) → ∃ g', gh_J a b K ex (gh_u (gh_u pl h k none) h1 k1 (some t)) cb' cx g' V ∧ ∀ o, (gh_ca cb h k < 2 → ¬ g t <:+ g o) → g' o = g o := by
    intro h2 hE
    exact ⟨g, gh_J_set (gh_J_rm H h k) hcb hcf (by rw [hQ]; exact hE) (fun h => absurd h (by omega)) hK, fun _ _ => rfl⟩
  have merge : gh_ca cb h k < 2 → f = 2 → (gh_ca cb h k = 1 → ∃ q, gh_T q ∧ Q = q ++ gh_ce g cx h k) → ∃ g', gh_J a b K ex (gh_u (gh_u pl h k none) h1 k1 (some t)) cb' cx g' V ∧ ∀ o, (gh_ca cb h k < 2 → ¬ g t <:+ g o) → g' o = g o := by
    intro hc h2 hT
    obtain ⟨l, hl, hp⟩ := gh_e_lbl hc hv (H.1.1 h k t ht)
    obtain ⟨J, _, _, hce⟩ := gh_J_s (E := Q) H ht hc hv hQo (by rw [hp, gh_last_cons hne, hL]) hT
    refine ⟨_, gh_J_set (t := t) J hcb hcf ?_ (fun h => absurd h (by omega)) hK, fun o ho => gh_s_n (ho hc)⟩
    rw [hce, hQ, gh_s_n (hQn hc), h2]
    refine Or.inr (Or.inr (Or.inr ⟨gh_ok_lv hQo, Or.inr (Or.inr (Or.inl ⟨rfl, ?_⟩))⟩))
    exact gh_s_y (g t) _ []
  have freeze : gh_ca cb h k < 2 → f = 3 ∨ f = 4 → ∃ g', gh_J a b K ex (gh_u (gh_u pl h k none) h1 k1 (some t)) cb' cx g' V ∧ ∀ o, (gh_ca cb h k < 2 → ¬ g t <:+ g o) → g' o = g o := by
    intro hc h2
    obtain ⟨J, hce⟩ := gh_J_z H ht hc hv
    refine ⟨_, gh_J_set (t := t) J hcb hcf ?_ (fun h => absurd h (by omega)) hK, fun o ho => gh_z_n (ho hc)⟩
    rw [hce, hQ, gh_z_n (hQn hc)]
    have hgt : gh_z (g t) (g t) = gh_F := gh_z_y (List.suffix_refl _)
    refine Or.inr (Or.inr (Or.inr ⟨gh_ok_lv hQo, ?_⟩))
    rcases h2 with rfl | rfl
    · exact Or.inr (Or.inr (Or.inr (Or.inl ⟨rfl, hgt⟩)))
    · exact Or.inr (Or.inr (Or.inr (Or.inr ⟨rfl, Or.inl hgt⟩)))
  have mv : ∀ hf : f < 2 ∧ gh_ca cb h k = 0 ∨ (f = 1 ∧ gh_ca cb h k = 1 ∧ ∃ q, gh_T q ∧ Q = q ++ gh_ce g cx h k), ∃ g', gh_J a b K ex (gh_u (gh_u pl h k none) h1 k1 (some t)) cb' cx g' V ∧ ∀ o, (gh_ca cb h k < 2 → ¬ g t <:+ g o) → g' o = g o := by
    intro hf
    have hc : gh_ca cb h k < 2 := by rcases hf with h | h <;> omega
    obtain ⟨g', J, h'⟩ := gh_J_mv H ht hc hv hne hQ hQo (hQn hc) hL hf hcb hcf hK
    exact ⟨g', J, fun o ho => h' o (ho hc)⟩
  have hE := H.1.1 h k t ht
  have hQv := gh_ok_lv hQo
  have hEe : gh_ca cb h k < 5 → gh_e (gh_ca cb h k) (gh_ce g cx h k) (g t) := by
    intro h5
    rcases hE with h | h | ⟨h, _⟩ | ⟨_, h⟩
    · omega
    · exact absurd h hv.2
    · exact absurd h hv.1
    · exact h
  rcases hf with rfl | ⟨h0, h5⟩ | ⟨h0, h12, hq⟩ | ⟨h0, h34⟩ | ⟨h0, rfl, e⟩ | ⟨h0, rfl, q, hq, e⟩ | ⟨h0, h34⟩ | ⟨h0, rfl, q, hq, e⟩
  · exact plain (by decide) (Or.inl (by decide))
  · rcases (show f < 2 ∨ f = 2 ∨ f = 3 ∨ f = 4 by omega) with h' | h' | h'
    · exact mv (Or.inl ⟨h', h0⟩)
    · exact merge (by omega) h' (fun h => by omega)
    · exact freeze (by omega) h'
  · rcases h12 with h' | h'
    · exact mv (Or.inr ⟨h', h0, hq⟩)
    · exact merge (by omega) h' (fun _ => hq)
  · exact freeze (by omega) h34
  · have h' := hEe (by omega)
    rw [h0] at h'
    refine plain (by decide) (Or.inr (Or.inr (Or.inr ⟨hQv, ?_⟩)))
    rw [e]; exact h'
  · have h' := hEe (by omega)
    rw [h0] at h'
    refine plain (by decide) (Or.inr (Or.inr (Or.inr ⟨hQv, ?_⟩)))
    rcases h' with ⟨h, _⟩ | ⟨h, _⟩ | ⟨_, h⟩ | ⟨h, _⟩ | ⟨h, _⟩
    · omega
    · omega
    · exact Or.inr (Or.inr (Or.inr (Or.inr ⟨rfl, Or.inr ⟨q, hq, by rw [h, e]⟩⟩)))
    · omega
    · omega
  · have h' := hEe (by omega)
    rw [h0] at h'
    have hF : g t = gh_F := by
      rcases h' with ⟨h, _⟩ | ⟨h, _⟩ | ⟨h, _⟩ | ⟨_, h⟩ | ⟨h, _⟩
      · omega
      · omega
      · omega
      · exact h
      · omega
    rcases h34 with rfl | rfl
    · exact plain (by decide) (Or.inr (Or.inr (Or.inr ⟨hQv, Or.inr (Or.inr (Or.inr (Or.inl ⟨rfl, hF⟩)))⟩)))
    · exact plain (by decide) (Or.inr (Or.inr (Or.inr ⟨hQv, Or.inr (Or.inr (Or.inr (Or.inr ⟨rfl, Or.inl hF⟩)))⟩)))
  · have h' := hEe (by omega)
    rw [h0] at h'
    refine plain (by decide) (Or.inr (Or.inr (Or.inr ⟨hQv, ?_⟩)))
    rcases h' with ⟨h, _⟩ | ⟨h, _⟩ | ⟨h, _⟩ | ⟨h, _⟩ | ⟨_, h⟩
    · omega
    · omega
    · omega
    · omega
    · rcases h with h | ⟨r, hr, h⟩
      · exact Or.inr (Or.inr (Or.inr (Or.inr ⟨rfl, Or.inl h⟩)))
      · exact Or.inr (Or.inr (Or.inr (Or.inr ⟨rfl, Or.inr ⟨r ++ q, gh_T_app.mpr ⟨hr, hq⟩, by rw [h, e]; simp⟩⟩)))
end
