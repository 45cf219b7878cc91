/-! The statements, cell by cell. P is the cell in which a local becomes something: the actor's or the block's -/
section
variable {a b : Nat} {K : Nat → Nat → Prop} {ex : Nat → Prop} {pl pl' : Nat → Nat → Option Nat} {cb cb' : Nat → Nat → Nat} {cx cx' : Nat → Nat → gh_P} {g : Nat → gh_P} {V : Nat → Nat → Prop} {P : gh_P}
def gh_cel (a b : Nat) (P : gh_P) : Prop := P = [(0, a)] ∨ P = [(1, b), (0, a)]
theorem gh_cel_ok (h : gh_cel a b P) : gh_ok P ∧ P.getLast? = some (0, a) ∧ P ≠ [] := by
  rcases h with rfl | rfl
  · exact ⟨⟨(0, a), rfl, by simp⟩, rfl, by simp⟩
  · exact ⟨⟨(0, a), rfl, by simp⟩, rfl, by simp⟩
theorem gh_ca20 (x : Nat) : gh_ca cb 20 x = cb 20 x := if_neg (by decide)
theorem gh_ca22 (x : Nat) : gh_ca cb 22 x = cb 22 x := if_neg (by decide)
theorem gh_ce20 (x : Nat) : gh_ce g cx 20 x = cx 20 x := by unfold gh_ce; rw [if_neg (by decide), if_neg (by decide)]
theorem gh_ce22 (x : Nat) : gh_ce g cx 22 x = cx 22 x := by unfold gh_ce; rw [if_neg (by decide), if_neg (by decide)]
theorem gh_J_c20 (H : gh_J a b K ex pl cb cx g V) (x : Nat) : gh_cel a b (cx 20 x) := by
  rcases H.2.2.2.2.2 20 x (by decide) with h | h | ⟨h, _⟩
  · exact Or.inl h
  · exact Or.inr h
  · omega
theorem gh_J_c22 (H : gh_J a b K ex pl cb cx g V) (x : Nat) : gh_cel a b (cx 22 x) := by
  rcases H.2.2.2.2.2 22 x (by decide) with h | h | ⟨h, _⟩
  · exact Or.inl h
  · exact Or.inr h
  · omega
theorem gh_nsf {h k t : Nat} (H : gh_J a b K ex pl cb cx g V) (ht : pl h k = some t) (hc : gh_ca cb h k < 2) (hv : gh_lv (gh_ce g cx h k)) : (∀ m, ¬ g t <:+ [(0, m)]) ∧ ∀ P, gh_cel a b P → ¬ g t <:+ P := by
  obtain ⟨l, hl, hp⟩ := gh_e_lbl hc hv (H.1.1 h k t ht)
  have hlb : l.2 ≠ b := by
    have := H.2.2.2.2.1 h k t ht hc hv
    rw [hp] at this; intro e; exact this (by rw [← e]; rfl)
  have n0 : ∀ m, ¬ g t <:+ [((0 : Nat), m)] := by
    intro m hs; rw [hp] at hs; have := gh_sf_one hs; subst this; rcases hl with h | h <;> simp at h
  refine ⟨n0, fun P hP hs => ?_⟩
  rcases hP with rfl | rfl
  · exact n0 _ hs
  · rw [hp] at hs
    rcases gh_sf_cons.mp hs with hs | hs
    · injection hs with hs _; rw [hs] at hlb; exact hlb rfl
    · rw [← hp] at hs; exact n0 _ hs
/-- the local is emptied, and will have another capability, in another cell -/
theorem gh_J_lc (H : gh_J a b K ex pl cb cx g V) (hP : gh_cel a b P) (x c : Nat) : gh_J a b K ex (gh_u pl 20 x none) (gh_u cb 20 x c) (gh_u cx 20 x P) g V := by
  refine gh_J_mono H (fun h k t ht => ?_) (fun h k hk => ?_)
  · by_cases e : h = 20 ∧ k = x
    · obtain ⟨rfl, rfl⟩ := e; rw [gh_u_s] at ht; cases ht
    · rw [gh_u_n _ _ e] at ht
      exact ⟨ht, by unfold gh_ca; rw [gh_u_n _ _ e], fun _ => gh_u_n _ _ e⟩
  · by_cases e : h = 20 ∧ k = x
    · obtain ⟨rfl, rfl⟩ := e; rw [gh_u_s]; rcases hP with h | h
      · exact Or.inl h
      · exact Or.inr (Or.inl h)
    · rw [gh_u_n _ _ e]; exact H.2.2.2.2.2 h k hk
theorem gh_wh20 {b' : Nat} (h : gh_wh a b' 20) : b' = a := by
  rcases h with h | h
  · omega
  · exact h.1
theorem gh_wh22 {b' : Nat} (h : gh_wh a b' 22) : b' = a := by
  rcases h with h | h
  · omega
  · exact h.1
/-- a local becomes something by a capability that wants no label -/
theorem gh_st_loc (H : gh_J a b K ex pl cb cx g V) (hP : gh_cel a b P) (x c : Nat) (v : Option Nat) (hv : ∀ t, v = some t → 2 ≤ c ∧ gh_E c P (g t) ∧ K a t ∧ (c < 5 → V a t)) : gh_J a b K ex (gh_u pl 20 x v) (gh_u cb 20 x c) (gh_u cx 20 x P) g V := by
  have J := gh_J_lc H hP x c
  cases v with
  | none => exact J
  | some t =>
    obtain ⟨h2, hE, hK, hV⟩ := hv t rfl
    have := gh_J_set (h := 20) (k := x) (t := t) (c := c) (cb' := gh_u cb 20 x c) J (fun _ _ _ => rfl) (by rw [gh_ca20, gh_u_s]) (by rw [gh_ce20, gh_u_s]; exact hE) (fun h => absurd h (by omega)) (fun b' hb' => by
      rcases hb' with ⟨h, _⟩ | h
      · omega
      · rw [gh_wh20 h]; exact ⟨hK, hV⟩)
    refine gh_J_mono this (fun h k u hu => ⟨?_, rfl, fun _ => rfl⟩) this.2.2.2.2.2
    by_cases e : h = 20 ∧ k = x
    · obtain ⟨rfl, rfl⟩ := e; rw [gh_u_s] at hu ⊢; exact hu
    · rw [gh_u_n _ _ e] at hu; rw [gh_u_n _ _ e, gh_u_n _ _ e]; exact hu
/-- a local's reference goes into the hand -/
theorem gh_J_tf (H : gh_J a b K ex pl cb cx g V) (z : Nat) : gh_J a b K ex (gh_u (gh_u pl 20 z none) 22 0 (pl 20 z)) (gh_u cb 22 0 (cb 20 z)) (gh_u cx 22 0 (cx 20 z)) g V := by
  have hx : ∀ h k, 20 ≤ h → gh_u cx 22 0 (cx 20 z) h k = [(0, a)] ∨ gh_u cx 22 0 (cx 20 z) h k = [(1, b), (0, a)] ∨ (h = 21 ∧ gh_u cx 22 0 (cx 20 z) h k = []) := by
    intro h k hk
    by_cases e : h = 22 ∧ k = 0
    · obtain ⟨rfl, rfl⟩ := e; rw [gh_u_s]
      rcases gh_J_c20 H z with h | h
      · exact Or.inl h
      · exact Or.inr (Or.inl h)
    · rw [gh_u_n _ _ e]; exact H.2.2.2.2.2 h k hk
  have J1 : gh_J a b K ex (gh_u (gh_u pl 20 z none) 22 0 none) (gh_u cb 22 0 (cb 20 z)) (gh_u cx 22 0 (cx 20 z)) g V := by
    refine gh_J_mono H (fun h k t ht => ?_) hx
    by_cases e : h = 22 ∧ k = 0
    · obtain ⟨rfl, rfl⟩ := e; rw [gh_u_s] at ht; cases ht
    · rw [gh_u_n _ _ e] at ht
      by_cases e' : h = 20 ∧ k = z
      · obtain ⟨rfl, rfl⟩ := e'; rw [gh_u_s] at ht; cases ht
      · rw [gh_u_n _ _ e'] at ht
        exact ⟨ht, by unfold gh_ca; rw [gh_u_n _ _ e], fun _ => gh_u_n _ _ e⟩
  cases hz : pl 20 z with
  | none => exact J1
  | some t =>
    have hE := H.1.1 20 z t hz
    have hR := H.2.2.1.2 a 20 z t (Or.inr ⟨rfl, by decide, by decide⟩) hz
    rw [gh_ca20] at hE hR
    rw [gh_ce20] at hE
    have := gh_J_set (h := 22) (k := 0) (t := t) (c := cb 20 z) (cb' := gh_u cb 22 0 (cb 20 z)) J1 (fun _ _ _ => rfl) (by rw [gh_ca22, gh_u_s]) (by rw [gh_ce22, gh_u_s]; exact hE) (fun h2 => by
      have hv := gh_ok_lv (gh_cel_ok (gh_J_c20 H z)).1
      refine ⟨H.2.2.2.2.1 20 z t hz (by rw [gh_ca20]; exact h2) (by rw [gh_ce20]; exact hv), fun x y u hu hc' hv' hn e => ?_⟩
      rw [gh_u_n _ _ hn] at hu
      by_cases e' : x = 20 ∧ y = z
      · obtain ⟨rfl, rfl⟩ := e'; rw [gh_u_s] at hu; cases hu
      · rw [gh_u_n _ _ e'] at hu
        have c1 : gh_ca (gh_u cb 22 0 (cb 20 z)) x y = gh_ca cb x y := by unfold gh_ca; rw [gh_u_n _ _ hn]
        have c2 : gh_ce g (gh_u cx 22 0 (cx 20 z)) x y = gh_ce g cx x y := by unfold gh_ce; rw [gh_u_n _ _ hn]
        rw [c1] at hc'; rw [c2] at hv'
        exact e' (H.1.2 x y u 20 z t hu hz hc' (by rw [gh_ca20]; exact h2) hv' (by rw [gh_ce20]; exact hv) e)) (fun b' hb' => by
      rcases hb' with ⟨h, _⟩ | h
      · omega
      · rw [gh_wh22 h]; exact hR)
    refine gh_J_mono this (fun h k u hu => ⟨?_, rfl, fun _ => rfl⟩) this.2.2.2.2.2
    by_cases e : h = 22 ∧ k = 0
    · obtain ⟨rfl, rfl⟩ := e; rw [gh_u_s] at hu ⊢; exact hu
    · rw [gh_u_n _ _ e] at hu; rw [gh_u_n _ _ e, gh_u_n _ _ e]; exact hu
/-- but for the hand, it is the same -/
theorem gh_J_eq (H : gh_J a b K ex pl cb cx g V) (h22 : ∀ k, pl' 22 k = none) (hp : ∀ h k, h ≠ 22 → pl' h k = pl h k) (hcb : ∀ h k, h ≠ 22 → cb' h k = cb h k) (hcx : ∀ h k, h ≠ 22 → cx' h k = cx h k) (hx : ∀ k, gh_cel a b (cx' 22 k)) : gh_J a b K ex pl' cb' cx' g V := by
  refine gh_J_mono H (fun h k t ht => ?_) (fun h k hk => ?_)
  · by_cases e : h = 22
    · subst e; rw [h22] at ht; cases ht
    · rw [hp h k e] at ht
      exact ⟨ht, by unfold gh_ca; rw [hcb h k e], fun _ => hcx h k e⟩
  · by_cases e : h = 22
    · subst e
      rcases hx k with h | h
      · exact Or.inl h
      · exact Or.inr (Or.inl h)
    · rw [hcx h k e]; exact H.2.2.2.2.2 h k hk
/-- MOVE -/
theorem gh_st_move (H : gh_J a b K ex pl cb cx g V) (hP : gh_cel a b P) (x y : Nat) (hacc : cb 20 y = 1 ∨ cb 20 y = 2 ∨ cb 20 y = 4 → cx 20 y = P) (hc6 : cb 20 y < 6) (h22 : ∀ k, pl 22 k = none) : ∃ g', gh_J a b K ex (gh_u (gh_u pl 20 y none) 20 x (pl 20 y)) (gh_u cb 20 x (cb 20 y)) (gh_u cx 20 x P) g' V := by
  cases hy : pl 20 y with
  | none => exact ⟨g, gh_J_lc (gh_J_rm H 20 y) hP x _⟩
  | some t =>
    have J1 := gh_J_tf H y
    rw [hy] at J1
    have J2 := gh_J_lc J1 hP x (cb 20 y)
    have n1 : ¬ ((22 : Nat) = 20 ∧ 0 = x) := by omega
    have hpl : gh_u (gh_u (gh_u pl 20 y none) 22 0 (some t)) 20 x none 22 0 = some t := by rw [gh_u_n _ _ n1, gh_u_s]
    have hca : gh_ca (gh_u (gh_u cb 22 0 (cb 20 y)) 20 x (cb 20 y)) 22 0 = cb 20 y := by rw [gh_ca22, gh_u_n _ _ n1, gh_u_s]
    have hce : gh_ce g (gh_u (gh_u cx 22 0 (cx 20 y)) 20 x P) 22 0 = cx 20 y := by rw [gh_ce22, gh_u_n _ _ n1, gh_u_s]
    obtain ⟨ok0, la0, ne0⟩ := gh_cel_ok (gh_J_c20 H y)
    obtain ⟨ok1, la1, ne1⟩ := gh_cel_ok hP
    have hR := H.2.2.1.2 a 20 y t (Or.inr ⟨rfl, by decide, by decide⟩) hy
    rw [gh_ca20] at hR
    obtain ⟨g', J3, _⟩ := gh_J_give (h1 := 20) (k1 := x) (f := cb 20 y) (Q := P) (cb' := gh_u (gh_u cb 22 0 (cb 20 y)) 20 x (cb 20 y)) J2 hpl (by rw [hce]; exact gh_ok_lv ok0) (by rw [hce]; exact ne0) (by rw [gh_ce20, gh_u_s]) ok1 (fun h2 => (gh_nsf J2 hpl h2 (by rw [hce]; exact gh_ok_lv ok0)).2 P hP) (by rw [hce, la0, la1]) (by
      rw [hca, hce]
      rcases (show cb 20 y = 0 ∨ cb 20 y = 1 ∨ cb 20 y = 2 ∨ cb 20 y = 3 ∨ cb 20 y = 4 ∨ cb 20 y = 5 by omega) with h | h | h | h | h | h
      · exact Or.inr (Or.inl ⟨h, by omega⟩)
      · exact Or.inr (Or.inr (Or.inl ⟨h, Or.inl h, [], gh_T_nil, by rw [hacc (by omega)]; rfl⟩))
      · exact Or.inr (Or.inr (Or.inr (Or.inr (Or.inl ⟨h, h, (hacc (by omega)).symm⟩))))
      · exact Or.inr (Or.inr (Or.inr (Or.inr (Or.inr (Or.inr (Or.inl ⟨h, Or.inl h⟩))))))
      · exact Or.inr (Or.inr (Or.inr (Or.inr (Or.inr (Or.inr (Or.inr ⟨h, h, [], gh_T_nil, by rw [hacc (by omega)]; rfl⟩))))))
      · exact Or.inl h) (fun _ _ _ => rfl) (by rw [gh_ca20, gh_u_s]) (fun b' hb' => by
      rcases hb' with ⟨h, _⟩ | h
      · omega
      · rw [gh_wh20 h]; exact hR)
    refine ⟨g', gh_J_eq J3 (fun k => ?_) (fun h k hk => ?_) (fun h k hk => ?_) (fun h k hk => ?_) (fun k => ?_)⟩
    · rw [gh_u_n _ _ (by omega), gh_u_n _ _ (by omega), h22]
    · by_cases e1 : h = 20 ∧ k = x <;> by_cases e2 : h = 20 ∧ k = y <;> simp [gh_u, hk, e1, e2]
    · simp [gh_u, hk]
    · simp [gh_u, hk]
    · rw [gh_u_n _ _ (by omega)]; exact gh_J_c22 H k
end
