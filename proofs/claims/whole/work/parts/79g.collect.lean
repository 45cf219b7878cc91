/-! Collecting -/
section
variable {a b : Nat} {K K' : Nat → Nat → Prop} {ex ex' : Nat → Prop} {pl pl' : Nat → Nat → Option Nat} {cb cb' : Nat → Nat → Nat} {cx cx' : Nat → Nat → gh_P} {g : Nat → gh_P} {V : Nat → Nat → Prop} {P : gh_P}
/-- kept by a: met from a's fields, at all or by more than TAG -/
def gh_kp (pl : Nat → Nat → Option Nat) (a o : Nat) : Prop := ∃ k t, pl (16 + a) k = some t ∧ gh_cl pl t k o
def gh_kd (pl : Nat → Nat → Option Nat) (a o : Nat) : Prop := ∃ k t, k < 5 ∧ pl (16 + a) k = some t ∧ gh_dp pl t o
theorem gh_kd_kp {o : Nat} (h : gh_kd pl a o) : gh_kp pl a o := by
  obtain ⟨k, t, k5, ht, hd⟩ := h
  refine ⟨k, t, ht, ?_⟩
  exact gh_dp_ind (fun x => gh_cl pl t k x) (Or.inl rfl) (fun p k' u hp _ h16 hk hu => Or.inr ⟨k5, p, k', hp, h16, hu⟩) hd
theorem gh_e_root {c : Nat} {P p : gh_P} (h : gh_e c P p) : p = gh_F ∨ ∃ q : gh_P, p = q ++ P ∧ ∀ l, l ∈ q → l.1 ≠ 0 := by
  rcases h with ⟨_, i, rfl⟩ | ⟨_, i, rfl⟩ | ⟨_, rfl⟩ | ⟨_, h⟩ | ⟨_, h⟩
  · exact Or.inr ⟨[(1, i)], rfl, by simp⟩
  · exact Or.inr ⟨[(2, i)], rfl, by simp⟩
  · exact Or.inr ⟨[], rfl, by simp⟩
  · exact Or.inl h
  · rcases h with h | ⟨q, hq, h⟩
    · exact Or.inl h
    · exact Or.inr ⟨q, h, fun l hl => by rw [hq l hl]; decide⟩
theorem gh_e_a {c m : Nat} {P p : gh_P} (h : gh_e c P p) (hp : p.getLast? = some (0, m)) : P.getLast? = some (0, m) := by
  rcases gh_e_root h with h' | ⟨q, h', hq⟩
  · rw [h'] at hp; simp [gh_F] at hp
  · by_cases e : P = []
    · rw [h', e, List.append_nil] at hp
      have := List.mem_of_getLast? hp
      exact absurd rfl (hq _ this)
    · rw [h', gh_last_app e] at hp; exact hp
theorem gh_st_keep (H : gh_J a b K ex pl cb cx g V) (ha : a < 4) (hr : ∀ h k, 20 ≤ h → h ≠ 21 → pl h k = none) (h21 : ∀ k, cx 21 k = []) (hK : ∀ b o, K b o → (b = a → gh_kp pl a o) → K' b o) : ∃ g' V', gh_J a b K' ex pl cb cx g' V' := by
  classical
  have gd : ∀ o, ((g o).getLast? = some (0, a) ∧ ¬ gh_kd pl a o) → (fun o => if (g o).getLast? = some (0, a) ∧ ¬ gh_kd pl a o then gh_D else g o) o = gh_D := fun o h => if_pos h
  have gn : ∀ o, ¬ ((g o).getLast? = some (0, a) ∧ ¬ gh_kd pl a o) → (fun o => if (g o).getLast? = some (0, a) ∧ ¬ gh_kd pl a o then gh_D else g o) o = g o := fun o h => if_neg h
  generalize (fun o => if (g o).getLast? = some (0, a) ∧ ¬ gh_kd pl a o then gh_D else g o) = g' at gd gn
  have stay : ∀ x y u, pl x y = some u → gh_ca cb x y < 5 → gh_lv (gh_ce g cx x y) → gh_ce g' cx x y ≠ gh_D → g' u = g u := by
    intro x y u hu hc hv hD
    refine gn u ?_
    rintro ⟨hl, hk⟩
    have he := gh_e_a (gh_E_lv hv hc (H.1.1 x y u hu)) hl
    by_cases h16 : x < 16
    · rw [gh_ce16 h16] at he hD
      by_cases e : (g x).getLast? = some (0, a) ∧ ¬ gh_kd pl a x
      · exact hD (gd x e)
      · have hkx : gh_kd pl a x := Classical.not_not.mp (fun h => e ⟨he, h⟩)
        obtain ⟨k, t, k5, ht, hd⟩ := hkx
        rw [gh_ca16 (by omega)] at hc
        exact hk ⟨k, t, k5, ht, gh_dp_step hd h16 hc hu⟩
    · by_cases h20 : x < 20
      · have e : gh_ce g cx x y = [(0, x - 16)] := by unfold gh_ce; rw [if_neg h16, if_pos h20]
        rw [e] at he
        have e' : x = 16 + a := by simp at he; omega
        subst e'
        rw [gh_ca16 h20] at hc
        exact hk ⟨y, u, hc, hu, gh_dp_refl u⟩
      · by_cases e : x = 21
        · subst e; rw [gh_ce21, h21] at he; simp at he
        · rw [hr x y (by omega) e] at hu; cases hu
  have gF : ∀ u, g u = gh_F → g' u = gh_F := by
    intro u h; rw [gn u, h]; rintro ⟨hl, _⟩; rw [h] at hl; simp [gh_F] at hl
  have ceq : ∀ x y, gh_ce g' cx x y ≠ gh_D → gh_ce g' cx x y = gh_ce g cx x y := by
    intro x y h
    by_cases h16 : x < 16
    · rw [gh_ce16 h16] at h ⊢; rw [gh_ce16 h16]
      by_cases e : (g x).getLast? = some (0, a) ∧ ¬ gh_kd pl a x
      · exact absurd (gd x e) h
      · exact gn x e
    · unfold gh_ce; rw [if_neg h16, if_neg h16]
  refine ⟨g', fun b' o => V b' o ∧ (b' = a → gh_kd pl a o), gh_I_die H.1 (fun x y u hu => ?_), ⟨fun b' o ho => ?_, fun b' o ho => ?_⟩, ⟨fun b' o o16 hv => ?_, fun b' h k u hw hu => ?_⟩, fun o ho => H.2.2.2.1 o (fun e => ho ?_), fun x y u hu hc hv => ?_, H.2.2.2.2.2⟩
  · by_cases e : gh_ce g' cx x y = gh_D
    · exact Or.inl e
    · exact Or.inr ⟨ceq x y e, fun hc hv => stay x y u hu hc hv e, gF u⟩
  · by_cases e : (g o).getLast? = some (0, a) ∧ ¬ gh_kd pl a o
    · rw [gd o e] at ho; simp [gh_D] at ho
    · rw [gn o e] at ho
      refine ⟨H.2.1.1 b' o ho, fun e' => ?_⟩
      subst e'
      exact Classical.not_not.mp (fun h => e ⟨ho, h⟩)
  · by_cases e : (g o).getLast? = some (0, a) ∧ ¬ gh_kd pl a o
    · rcases H.2.1.2 b' o ho.1 with h | h
      · exact Or.inl (gF o h)
      · rw [e.1] at h; injection h with h; injection h with _ h
        exact absurd (ho.2 h.symm) e.2
    · rw [gn o e]; exact H.2.1.2 b' o ho.1
  · have := H.2.2.1.1 b' o o16 hv.1
    refine ⟨hK _ _ this.1 (fun e => gh_kd_kp (hv.2 e)), fun k u hu => ⟨hK _ _ (this.2 k u hu).1 (fun e => ?_), fun h5 => ⟨(this.2 k u hu).2 h5, fun e => ?_⟩⟩⟩
    · obtain ⟨j, t, j5, ht, hd⟩ := hv.2 e
      exact ⟨j, t, ht, Or.inr ⟨j5, o, k, hd, o16, hu⟩⟩
    · obtain ⟨j, t, j5, ht, hd⟩ := hv.2 e
      exact ⟨j, t, j5, ht, gh_dp_step hd o16 h5 hu⟩
  · have := H.2.2.1.2 b' h k u hw hu
    rcases hw with ⟨e, hb4⟩ | ⟨_, h1, h2⟩
    · subst e
      have hca : gh_ca cb (16 + b') k = k := gh_ca16 (by omega)
      rw [hca] at this ⊢
      refine ⟨hK _ _ this.1 (fun e => ?_), fun h5 => ⟨this.2 h5, fun e => ?_⟩⟩
      · subst e; exact ⟨k, u, hu, Or.inl rfl⟩
      · subst e; exact ⟨k, u, h5, hu, gh_dp_refl u⟩
    · rw [hr h k h1 h2] at hu; cases hu
  · rw [gn o, e]; rintro ⟨hl, _⟩; rw [e] at hl; simp [gh_D] at hl
  · have hv2 := hv
    rw [ceq x y hv.2] at hv2
    rw [stay x y u hu (by omega) hv2 hv.2]
    exact H.2.2.2.2.1 x y u hu hc hv2
/-- an object is freed: nobody holds it any more -/
theorem gh_st_free {o : Nat} (H : gh_J a b K ex pl cb cx g V) (ho : o < 16) : ∃ g' V', gh_J a b (fun b' t => K b' t ∧ t ≠ o) (fun t => ex t ∧ t ≠ o) (fun h k => if h = o ∨ pl h k = some o then none else pl h k) cb cx g' V' := by
  have J : gh_J a b K ex (fun h k => if h = o ∨ pl h k = some o then none else pl h k) cb cx g V := by
    refine gh_J_mono H (fun h k t ht => ?_) H.2.2.2.2.2
    by_cases e : h = o ∨ pl h k = some o
    · simp only [if_pos e] at ht; cases ht
    · simp only [if_neg e] at ht; exact ⟨ht, rfl, fun _ => rfl⟩
  have ne : ∀ h k t, (fun h k => if h = o ∨ pl h k = some o then none else pl h k) h k = some t → t ≠ o ∧ h ≠ o := by
    intro h k t ht
    by_cases e : h = o ∨ pl h k = some o
    · simp only [if_pos e] at ht; cases ht
    · simp only [if_neg e] at ht
      exact ⟨fun e' => e (Or.inr (by rw [ht, e'])), fun e' => e (Or.inl e')⟩
  generalize (fun h k => if h = o ∨ pl h k = some o then none else pl h k) = pl1 at J ne
  have gn : ∀ t, t ≠ o → (fun t => if t = o then gh_D else g t) t = g t := fun t h => if_neg h
  have gs : (fun t => if t = o then gh_D else g t) o = gh_D := if_pos rfl
  generalize (fun t => if t = o then gh_D else g t) = g' at gn gs
  have ceq : ∀ h k, h ≠ o → gh_ce g' cx h k = gh_ce g cx h k := by
    intro h k e; unfold gh_ce; rw [gn h e]
  refine ⟨g', fun b' t => V b' t ∧ t ≠ o, gh_I_die J.1 (fun x y u hu => ?_), ⟨fun b' t ht => ?_, fun b' t ht => ?_⟩, ⟨fun b' t t16 hv => ?_, fun b' h k u hw hu => ?_⟩, fun t ht => ?_, fun x y u hu hc hv => ?_, J.2.2.2.2.2⟩
  · obtain ⟨h1, h2⟩ := ne x y u hu
    exact Or.inr ⟨ceq x y h2, fun _ _ => gn u h1, fun h => by rw [gn u h1, h]⟩
  · by_cases e : t = o
    · subst e; rw [gs] at ht; simp [gh_D] at ht
    · rw [gn t e] at ht; exact ⟨J.2.1.1 b' t ht, e⟩
  · rw [gn t ht.2]; exact J.2.1.2 b' t ht.1
  · have := J.2.2.1.1 b' t t16 hv.1
    exact ⟨⟨this.1, hv.2⟩, fun k u hu => ⟨⟨(this.2 k u hu).1, (ne t k u hu).1⟩, fun h5 => ⟨(this.2 k u hu).2 h5, (ne t k u hu).1⟩⟩⟩
  · have := J.2.2.1.2 b' h k u hw hu
    exact ⟨⟨this.1, (ne h k u hu).1⟩, fun h5 => ⟨this.2 h5, (ne h k u hu).1⟩⟩
  · by_cases e : t = o
    · subst e; exact absurd gs ht
    · rw [gn t e] at ht
      have := J.2.2.2.1 t ht
      exact ⟨this.1, this.2, e⟩
  · obtain ⟨h1, h2⟩ := ne x y u hu
    rw [ceq x y h2] at hv; rw [gn u h1]
    exact J.2.2.2.2.1 x y u hu hc hv
/-- what an actor's reference holds, and all in its closure, is held by the actor -/
theorem gh_J_cl {t c o : Nat} (H : gh_J a b K ex pl cb cx g V) {b' : Nat} (hK : K b' t) (hV : c < 5 → V b' t) (h : gh_cl pl t c o) : K b' o := by
  rcases h with rfl | ⟨c5, p, k, hp, p16, hk⟩
  · exact hK
  · have hVp : V b' p := by
      refine gh_dp_ind (fun x => V b' x) (hV c5) (fun p k u _ hq h16 hk hu => ((H.2.2.1.1 b' p h16 hq).2 k u hu).2 hk) hp
    exact ((H.2.2.1.1 b' p p16 hVp).2 k o hk).1
end
