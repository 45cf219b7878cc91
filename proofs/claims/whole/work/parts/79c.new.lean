/-! NEW, SHUT -/
section
variable {a b : Nat} {K K' : Nat → Nat → Prop} {ex ex' : Nat → Prop} {pl pl' : Nat → Nat → Option Nat} {cb cb' : Nat → Nat → Nat} {cx cx' : Nat → Nat → gh_P} {g : Nat → gh_P} {V : Nat → Nat → Prop} {P : gh_P}
theorem gh_J_grow (H : gh_J a b K ex pl cb cx g V) (hK : ∀ b o, K b o → K' b o) (he : ∀ o, ex o → ex' o) : gh_J a b K' ex' pl cb cx g V := by
  obtain ⟨h1, h2, h3, h4, h5, h6⟩ := H
  refine ⟨h1, h2, ⟨fun b o ho hv => ⟨hK _ _ (h3.1 b o ho hv).1, fun k t ht => ⟨hK _ _ ((h3.1 b o ho hv).2 k t ht).1, ((h3.1 b o ho hv).2 k t ht).2⟩⟩, fun b h k t hw ht => ⟨hK _ _ (h3.2 b h k t hw ht).1, (h3.2 b h k t hw ht).2⟩⟩, fun o ho => ⟨(h4 o ho).1, he _ (h4 o ho).2⟩, h5, h6⟩
theorem gh_u_u {α : Type} (f : Nat → Nat → α) (h k : Nat) (v w : α) : gh_u (gh_u f h k v) h k w = gh_u f h k w := by
  funext x y
  by_cases e : x = h ∧ y = k
  · obtain ⟨rfl, rfl⟩ := e; rw [gh_u_s, gh_u_s]
  · rw [gh_u_n _ _ e, gh_u_n _ _ e, gh_u_n _ _ e]
/-- the cell of a new object -/
def gh_np (f n : Nat) (P : gh_P) : gh_P := if f < 2 then (f + 1, n) :: P else if f = 2 then P else gh_F
theorem gh_st_new {o x f : Nat} (H : gh_J a b K ex pl cb cx g V) (hP : gh_cel a b P) (ho : o < 16) (hg : g o = gh_D) (hK : K a o) (he : ex o) : ∃ g' V', gh_J a b K ex (gh_u (fun h k => if h = o then none else pl h k) 20 x (some o)) (gh_u cb 20 x f) (gh_u cx 20 x P) g' V' := by
  obtain ⟨n, hnb, hn⟩ := gh_fresh g b
  obtain ⟨hok, hla, hne⟩ := gh_cel_ok hP
  have J0 : gh_J a b K ex (fun h k => if h = o then none else pl h k) cb cx g V := by
    refine gh_J_mono H (fun h k t ht => ?_) H.2.2.2.2.2
    by_cases e : h = o
    · simp only [if_pos e] at ht; cases ht
    · simp only [if_neg e] at ht; exact ⟨ht, rfl, fun _ => rfl⟩
  have J1 := gh_J_lc J0 hP x f
  have po : ∀ k, gh_u (fun h k => if h = o then none else pl h k) 20 x none o k = none := by
    intro k; rw [gh_u_n _ _ (by omega)]; simp
  rw [← gh_u_u _ 20 x none (some o)]
  generalize gh_u (fun h k => if h = o then none else pl h k) 20 x none = pl1 at J1 po
  have hVo : ∀ b', ¬ V b' o := by
    intro b' h
    rcases H.2.1.2 b' o h with h | h
    · rw [hg] at h; cases h
    · rw [hg] at h; simp [gh_D] at h
  have hpl : (gh_np f n P = gh_F ∨ (gh_np f n P).getLast? = some (0, a)) ∧ gh_np f n P ≠ gh_D := by
    unfold gh_np
    by_cases f2 : f < 2
    · rw [if_pos f2]
      exact ⟨Or.inr (by rw [gh_last_cons hne, hla]), by intro e; injection e with e _; injection e with e _; omega⟩
    · rw [if_neg f2]
      by_cases f2' : f = 2
      · rw [if_pos f2']; exact ⟨Or.inr hla, (gh_ok_lv hok).2⟩
      · rw [if_neg f2']; exact ⟨Or.inl rfl, by intro e; cases e⟩
  have tne : ∀ h k t, pl1 h k = some t → gh_ca (gh_u cb 20 x f) h k < 5 → gh_ce g (gh_u cx 20 x P) h k ≠ gh_D → t ≠ o := by
    intro h k t ht hc hv e
    have := J1.1.1 h k t ht
    rw [e, hg] at this
    rcases gh_E_D this with h' | h'
    · omega
    · exact hv h'
  have gne : ∀ t, t ≠ o → (fun t => if t = o then gh_np f n P else g t) t = g t := fun t h => if_neg h
  have gself : (fun t => if t = o then gh_np f n P else g t) o = gh_np f n P := if_pos rfl
  generalize (fun t => if t = o then gh_np f n P else g t) = g' at gne gself
  have ceq : ∀ h k t, pl1 h k = some t → gh_ce g' (gh_u cx 20 x P) h k = gh_ce g (gh_u cx 20 x P) h k := by
    intro h k t ht
    have : h ≠ o := by intro e; rw [e, po] at ht; cases ht
    unfold gh_ce; rw [gne h this]
  have J2 : gh_J a b K ex pl1 (gh_u cb 20 x f) (gh_u cx 20 x P) g' (fun b' t => V b' t ∨ (b' = a ∧ t = o)) := by
    refine ⟨gh_I_mono (gh_I_new J1.1 hg gne) (fun h k t ht => ⟨ht, rfl, ceq h k t ht⟩), ⟨fun b' t ht => ?_, fun b' t ht => ?_⟩, ⟨fun b' t t16 hv => ?_, fun b' h k t hw ht => ?_⟩, fun t ht => ?_, fun h k t ht hc hv => ?_, J1.2.2.2.2.2⟩
    · by_cases e : t = o
      · right; subst e; rw [gself] at ht
        rcases hpl.1 with h | h
        · rw [h] at ht; simp [gh_F] at ht
        · rw [h] at ht; injection ht with ht; injection ht with _ ht; exact ⟨ht.symm, rfl⟩
      · left; rw [gne t e] at ht; exact H.2.1.1 b' t ht
    · rcases ht with h | ⟨rfl, rfl⟩
      · have : t ≠ o := fun e => hVo b' (e ▸ h)
        rw [gne t this]; exact H.2.1.2 b' t h
      · rw [gself]; exact hpl.1
    · rcases hv with h | ⟨rfl, rfl⟩
      · have := J1.2.2.1.1 b' t t16 h
        exact ⟨this.1, fun k u hu => ⟨(this.2 k u hu).1, fun h5 => Or.inl ((this.2 k u hu).2 h5)⟩⟩
      · exact ⟨hK, fun k u hu => by rw [po] at hu; cases hu⟩
    · have := J1.2.2.1.2 b' h k t hw ht
      exact ⟨this.1, fun h5 => Or.inl (this.2 h5)⟩
    · by_cases e : t = o
      · subst e; exact ⟨ho, he⟩
      · rw [gne t e] at ht; exact H.2.2.2.1 t ht
    · rw [ceq h k t ht] at hv
      rw [gne t (tne h k t ht (by omega) hv.2)]
      exact J1.2.2.2.2.1 h k t ht hc hv
  refine ⟨g', _, gh_J_set (c := f) J2 (fun _ _ _ => rfl) (by rw [gh_ca20, gh_u_s]) ?_ (fun f2 => ⟨?_, fun h' k' t' ht' hc' hv' hn' => ?_⟩) (fun b' hb' => ?_)⟩
  · rw [gh_ce20, gh_u_s, gself]
    unfold gh_np
    by_cases f2 : f < 2
    · rw [if_pos f2]
      refine Or.inr (Or.inr (Or.inr ⟨gh_ok_lv hok, ?_⟩))
      rcases (show f = 0 ∨ f = 1 by omega) with rfl | rfl
      · exact Or.inl ⟨rfl, n, rfl⟩
      · exact Or.inr (Or.inl ⟨rfl, n, rfl⟩)
    · rw [if_neg f2]
      by_cases f2' : f = 2
      · rw [if_pos f2']; exact Or.inr (Or.inr (Or.inr ⟨gh_ok_lv hok, Or.inr (Or.inr (Or.inl ⟨f2', rfl⟩))⟩))
      · rw [if_neg f2']; exact gh_E_F (gh_ok_lv hok) (by omega)
  · rw [gself]; unfold gh_np; rw [if_pos f2]
    intro e; injection e with e; exact hnb e
  · rw [ceq h' k' t' ht'] at hv'
    have hto := tne h' k' t' ht' (by omega) hv'.2
    obtain ⟨m, _, hm⟩ := gh_e_lbl hc' hv' (J1.1.1 h' k' t' ht')
    rw [gne t' hto, gself, hm]
    unfold gh_np; rw [if_pos f2]
    intro e
    have e' : m.2 = n := by injection e
    have h16 := (gh_J_ex J1 ht' (by omega) hv'.2).1
    exact hn t' h16 m (by rw [hm]; exact List.mem_cons_self) e'
  · rcases hb' with ⟨h, _⟩ | h
    · omega
    · rw [gh_wh20 h]; exact ⟨hK, fun _ => Or.inr ⟨rfl, rfl⟩⟩
/-- the block's label is another one from now on -/
theorem gh_J_b {b' : Nat} (H : gh_J a b K ex pl cb cx g V) (hb : ∀ t, t < 16 → ∀ l, l ∈ g t → l.2 ≠ b') (hx : ∀ h k, 20 ≤ h → cx h k = [(0, a)] ∨ (h = 21 ∧ cx h k = [])) : gh_J a b' K ex pl cb cx g V := by
  refine ⟨H.1, H.2.1, H.2.2.1, H.2.2.2.1, fun h k t ht hc hv e => ?_, fun h k hk => ?_⟩
  · obtain ⟨m, _, hm⟩ := gh_e_lbl hc hv (H.1.1 h k t ht)
    have h16 := (gh_J_ex H ht (by omega) hv.2).1
    rw [hm] at e
    have e' : m.2 = b' := by injection e
    exact hb t h16 m (by rw [hm]; exact List.mem_cons_self) e'
  · rcases hx h k hk with h | h
    · exact Or.inl h
    · exact Or.inr (Or.inr h)
/-- the block's cell is frozen -/
theorem gh_J_zB (H : gh_J a b K ex pl cb cx g V) (hx : ∀ h k, 20 ≤ h → cx h k = [(0, a)] ∨ (h = 21 ∧ cx h k = [])) : gh_J a b K ex pl cb cx (fun u => gh_z [(1, b), (0, a)] (g u)) V := by
  have hbd : ∀ x y u, pl x y = some u → gh_ca cb x y < 2 → gh_lv (gh_ce g cx x y) → g u ≠ (1, b) :: [(0, a)] := by
    intro x y u hu hc hv e
    have := H.2.2.2.2.1 x y u hu hc hv
    rw [e] at this; exact this rfl
  have n0 : ∀ m, ¬ ((1, b) :: [(0, a)]) <:+ [((0 : Nat), m)] := by
    intro m hs; have := gh_sf_one hs; injection this with e _; omega
  have hce : ∀ x y, gh_ce (fun u => gh_z [(1, b), (0, a)] (g u)) cx x y = gh_z [(1, b), (0, a)] (gh_ce g cx x y) := by
    intro x y
    unfold gh_ce
    by_cases e : x < 16
    · rw [if_pos e, if_pos e]
    · rw [if_neg e, if_neg e]
      by_cases e' : x < 20
      · rw [if_pos e', gh_z_n (n0 _)]
      · rw [if_neg e']
        rcases hx x y (by omega) with h | ⟨_, h⟩
        · rw [h, gh_z_n (n0 _)]
        · rw [h, gh_z_n gh_sf_nil]
  refine ⟨gh_I_mono (gh_I_z H.1 (by simp) hbd) (fun x y u hu => ⟨hu, rfl, hce x y⟩), gh_V_z H.2.1, H.2.2.1, fun o ho => H.2.2.2.1 o (fun e => ho ?_), fun x y u hu hc' hv' => ?_, H.2.2.2.2.2⟩
  · show gh_z _ (g o) = gh_D
    rw [e]; exact gh_z_n (gh_sf_D (by simp))
  · rw [hce] at hv'
    by_cases hs : ((1, b) :: [(0, a)]) <:+ gh_ce g cx x y
    · rw [gh_z_y hs] at hv'; exact absurd rfl hv'.1
    rw [gh_z_n hs] at hv'
    obtain ⟨m, _, hm⟩ := gh_e_lbl hc' hv' (H.1.1 x y u hu)
    have hne := hbd x y u hu hc' hv'
    have := H.2.2.2.2.1 x y u hu hc' hv'
    show gh_n (gh_z _ (g u)) ≠ _
    rw [gh_z_n]
    · exact this
    · rw [hm]
      intro hs'
      rcases gh_sf_cons.mp hs' with hs' | hs'
      · rw [hm] at hne; exact hne hs'.symm
      · exact hs hs'
end
