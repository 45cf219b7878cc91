/-! SHUT -/
def gh_ou (c : Nat) : Nat := if c < 3 then 0 else if c = 5 then 5 else 3
section
variable {a b : Nat} {K K' : Nat → Nat → Prop} {ex ex' : Nat → Prop} {pl pl' : Nat → Nat → Option Nat} {cb cb' : Nat → Nat → Nat} {cx cx' : Nat → Nat → gh_P} {g : Nat → gh_P} {V : Nat → Nat → Prop} {P : gh_P}
/-- cells when there is no block -/
def gh_c0 (a : Nat) : Nat → Nat → gh_P := fun h _ => if h = 21 then [] else [(0, a)]
theorem gh_c0_x (h k : Nat) : gh_c0 a h k = [(0, a)] ∨ (h = 21 ∧ gh_c0 a h k = []) := by
  unfold gh_c0
  by_cases e : h = 21
  · rw [if_pos e]; exact Or.inr ⟨e, rfl⟩
  · rw [if_neg e]; exact Or.inl rfl
theorem gh_c0_x' (h k : Nat) (_ : 20 ≤ h) : gh_c0 a h k = [(0, a)] ∨ gh_c0 a h k = [(1, b), (0, a)] ∨ (h = 21 ∧ gh_c0 a h k = []) := by
  rcases gh_c0_x (a := a) h k with h | h
  · exact Or.inl h
  · exact Or.inr (Or.inr h)
/-- set a local outside of a block -/
theorem gh_J_b0 {x t c b' : Nat} (H : gh_J a b K ex pl cb (gh_c0 a) g V) (hb : b' ≠ b) (hfr : ∀ t, t < 16 → ∀ l, l ∈ g t → l.2 ≠ b') (hc : cb 20 x = c) (hE : gh_E c [(0, a)] (g t)) (hU : c < 2 → gh_n (g t) = some b) (hK : K a t ∧ (c < 5 → V a t)) : gh_J a b' K ex (gh_u pl 20 x (some t)) cb (gh_c0 a) g V := by
  have J := gh_J_b H hfr (fun h k _ => gh_c0_x h k)
  refine gh_J_set (c := c) J (fun _ _ _ => rfl) (by rw [gh_ca20, hc]) (by rw [gh_ce20]; exact hE) (fun c2 => ⟨?_, fun h' k' t' ht' hc' hv' _ => ?_⟩) (fun b'' hb'' => ?_)
  · rw [hU c2]; intro e; injection e with e; exact hb e.symm
  · rw [hU c2]; exact H.2.2.2.2.1 h' k' t' ht' hc' hv'
  · rcases hb'' with ⟨h, _⟩ | h
    · omega
    · rw [gh_wh20 h]; exact hK
theorem gh_st_shut (H : gh_J a b K ex pl cb cx g V) (x y : Nat) (hacc : cb 20 y = 1 ∨ cb 20 y = 2 ∨ cb 20 y = 4 → cx 20 y = [(1, b), (0, a)]) (hc6 : cb 20 y < 6) (h22 : ∀ h k, 22 ≤ h → pl h k = none) (h21 : ∀ k, cx 21 k = []) : ∃ b' g', gh_J a b' K ex (gh_u (fun h k => if h = 20 ∧ (k = y ∨ cx 20 k = [(1, b), (0, a)]) then none else pl h k) 20 x (pl 20 y)) (gh_u cb 20 x (gh_ou (cb 20 y))) (gh_c0 a) g' V := by
  have RE : gh_J a b K ex (fun h k => if h = 20 ∧ (k = y ∨ cx 20 k = [(1, b), (0, a)] ∨ k = x) then none else if 22 ≤ h then none else pl h k) (gh_u cb 20 x (gh_ou (cb 20 y))) (gh_c0 a) g V := by
    refine gh_J_mono H (fun h k t ht => ?_) gh_c0_x'
    by_cases e : h = 20 ∧ (k = y ∨ cx 20 k = [(1, b), (0, a)] ∨ k = x)
    · simp only [if_pos e] at ht; cases ht
    · simp only [if_neg e] at ht
      by_cases e2 : 22 ≤ h
      · rw [if_pos e2] at ht; cases ht
      · rw [if_neg e2] at ht
        refine ⟨ht, ?_, fun h20 => ?_⟩
        · unfold gh_ca
          rw [gh_u_n]
          rintro ⟨rfl, rfl⟩; exact e ⟨rfl, Or.inr (Or.inr rfl)⟩
        · rcases (show h = 20 ∨ h = 21 by omega) with rfl | rfl
          · rcases gh_J_c20 H k with h | h
            · rw [h]; rfl
            · exact absurd ⟨rfl, Or.inr (Or.inl h)⟩ e
          · rw [h21]; rfl
  have fin : ∀ {b' : Nat} {g' : Nat → gh_P} {v : Option Nat}, gh_J a b' K ex (gh_u (fun h k => if h = 20 ∧ (k = y ∨ cx 20 k = [(1, b), (0, a)] ∨ k = x) then none else if 22 ≤ h then none else pl h k) 20 x v) (gh_u cb 20 x (gh_ou (cb 20 y))) (gh_c0 a) g' V → gh_J a b' K ex (gh_u (fun h k => if h = 20 ∧ (k = y ∨ cx 20 k = [(1, b), (0, a)]) then none else pl h k) 20 x v) (gh_u cb 20 x (gh_ou (cb 20 y))) (gh_c0 a) g' V := by
    intro b' g' v J
    refine gh_J_mono J (fun h k t ht => ⟨?_, rfl, fun _ => rfl⟩) J.2.2.2.2.2
    by_cases e : h = 20 ∧ k = x
    · obtain ⟨rfl, rfl⟩ := e; rw [gh_u_s] at ht ⊢; exact ht
    · rw [gh_u_n _ _ e] at ht ⊢
      by_cases e1 : h = 20 ∧ (k = y ∨ cx 20 k = [(1, b), (0, a)])
      · simp only [if_pos e1] at ht; cases ht
      · simp only [if_neg e1] at ht
        have e2 : ¬ (h = 20 ∧ (k = y ∨ cx 20 k = [(1, b), (0, a)] ∨ k = x)) := by
          rintro ⟨h1, h2 | h2 | h2⟩
          · exact e1 ⟨h1, Or.inl h2⟩
          · exact e1 ⟨h1, Or.inr h2⟩
          · exact e ⟨h1, h2⟩
        have e3 : ¬ 22 ≤ h := by
          intro h'; rw [h22 h k h'] at ht; cases ht
        simp only [if_neg e2, if_neg e3]; exact ht
  have cbx : gh_u cb 20 x (gh_ou (cb 20 y)) 20 x = gh_ou (cb 20 y) := gh_u_s _ _ _ _
  cases hy : pl 20 y with
  | none =>
    obtain ⟨b', hb', hfr⟩ := gh_fresh g b
    refine ⟨b', g, fin (gh_J_mono (gh_J_b RE hfr (fun h k _ => gh_c0_x h k)) (fun h k t ht => ⟨?_, rfl, fun _ => rfl⟩) gh_c0_x')⟩
    by_cases e : h = 20 ∧ k = x
    · obtain ⟨rfl, rfl⟩ := e; rw [gh_u_s] at ht; cases ht
    · rw [gh_u_n _ _ e] at ht; exact ht
  | some t =>
    have hR := H.2.2.1.2 a 20 y t (Or.inr ⟨rfl, by decide, by decide⟩) hy
    have hE := H.1.1 20 y t hy
    rw [gh_ca20] at hR hE
    rw [gh_ce20] at hE
    have hcy := gh_J_c20 H y
    have hlv := gh_ok_lv (gh_cel_ok hcy).1
    have a0 : gh_cel a b [(0, a)] := Or.inl rfl
    have a0v := gh_ok_lv (gh_cel_ok a0).1
    -- with the hand
    have J2 : gh_J a b K ex (gh_u (fun h k => if h = 20 ∧ (k = y ∨ cx 20 k = [(1, b), (0, a)] ∨ k = x) then none else if 22 ≤ h then none else pl h k) 22 0 (some t)) (gh_u (gh_u cb 20 x (gh_ou (cb 20 y))) 22 0 (cb 20 y)) (gh_u (gh_c0 a) 22 0 (cx 20 y)) g V := by
      have J1 := gh_J_tf H y
      rw [hy] at J1
      refine gh_J_mono J1 (fun h k u hu => ?_) (fun h k hk => ?_)
      · by_cases e : h = 22 ∧ k = 0
        · obtain ⟨rfl, rfl⟩ := e
          rw [gh_u_s] at hu ⊢
          exact ⟨hu, by rw [gh_ca22, gh_ca22, gh_u_s, gh_u_s], fun _ => by rw [gh_u_s, gh_u_s]⟩
        · rw [gh_u_n _ _ e] at hu ⊢
          by_cases e1 : h = 20 ∧ (k = y ∨ cx 20 k = [(1, b), (0, a)] ∨ k = x)
          · simp only [if_pos e1] at hu; cases hu
          · simp only [if_neg e1] at hu
            by_cases e2 : 22 ≤ h
            · rw [if_pos e2] at hu; cases hu
            · rw [if_neg e2] at hu
              refine ⟨?_, ?_, fun h20 => ?_⟩
              · rw [gh_u_n]
                · exact hu
                · rintro ⟨rfl, rfl⟩; exact e1 ⟨rfl, Or.inl rfl⟩
              · unfold gh_ca; rw [gh_u_n _ _ e, gh_u_n _ _ e, gh_u_n]
                rintro ⟨rfl, rfl⟩; exact e1 ⟨rfl, Or.inr (Or.inr rfl)⟩
              · rw [gh_u_n _ _ e, gh_u_n _ _ e]
                rcases (show h = 20 ∨ h = 21 by omega) with rfl | rfl
                · rcases gh_J_c20 H k with h | h
                  · rw [h]; rfl
                  · exact absurd ⟨rfl, Or.inr (Or.inl h)⟩ e1
                · rw [h21]; rfl
      · by_cases e : h = 22 ∧ k = 0
        · obtain ⟨rfl, rfl⟩ := e; rw [gh_u_s]
          rcases hcy with h | h
          · exact Or.inl h
          · exact Or.inr (Or.inl h)
        · rw [gh_u_n _ _ e]; exact gh_c0_x' h k hk
    have p22 : gh_u (fun h k => if h = 20 ∧ (k = y ∨ cx 20 k = [(1, b), (0, a)] ∨ k = x) then none else if 22 ≤ h then none else pl h k) 22 0 (some t) 22 0 = some t := gh_u_s _ _ _ _
    have ca22 : gh_ca (gh_u (gh_u cb 20 x (gh_ou (cb 20 y))) 22 0 (cb 20 y)) 22 0 = cb 20 y := by rw [gh_ca22, gh_u_s]
    have ce22 : ∀ g : Nat → gh_P, gh_ce g (gh_u (gh_c0 a) 22 0 (cx 20 y)) 22 0 = cx 20 y := by intro g; rw [gh_ce22, gh_u_s]
    have drop : ∀ {b' : Nat} {g' : Nat → gh_P}, gh_J a b' K ex (gh_u (gh_u (fun h k => if h = 20 ∧ (k = y ∨ cx 20 k = [(1, b), (0, a)] ∨ k = x) then none else if 22 ≤ h then none else pl h k) 22 0 (some t)) 22 0 none) (gh_u (gh_u cb 20 x (gh_ou (cb 20 y))) 22 0 (cb 20 y)) (gh_u (gh_c0 a) 22 0 (cx 20 y)) g' V → gh_J a b' K ex (fun h k => if h = 20 ∧ (k = y ∨ cx 20 k = [(1, b), (0, a)] ∨ k = x) then none else if 22 ≤ h then none else pl h k) (gh_u cb 20 x (gh_ou (cb 20 y))) (gh_c0 a) g' V := by
      intro b' g' J
      refine gh_J_eq J (fun k => ?_) (fun h k hk => ?_) (fun h k hk => ?_) (fun h k hk => ?_) (fun k => Or.inl rfl)
      · simp
      · simp [gh_u, hk]
      · simp [gh_u, hk]
      · simp [gh_u, hk]
    rcases (show cb 20 y = 0 ∨ cb 20 y = 1 ∨ cb 20 y = 2 ∨ cb 20 y = 3 ∨ cb 20 y = 4 ∨ cb 20 y = 5 by omega) with c | c | c | c | c | c
    · -- ISO
      obtain ⟨g', J3, _⟩ := gh_J_give (h1 := 20) (k1 := x) (f := 0) (Q := [(0, a)]) (cb' := gh_u (gh_u cb 20 x (gh_ou (cb 20 y))) 22 0 (cb 20 y)) J2 p22 (by rw [ce22]; exact hlv) (by rw [ce22]; exact (gh_cel_ok hcy).2.2) (by rw [gh_ce20, gh_u_n _ _ (by omega)]; rfl) (gh_cel_ok a0).1 (fun h2 => (gh_nsf J2 p22 h2 (by rw [ce22]; exact hlv)).2 _ a0) (by rw [ce22, (gh_cel_ok hcy).2.1]; rfl) (by rw [ca22]; exact Or.inr (Or.inl ⟨c, by decide⟩)) (fun _ _ _ => rfl) (by rw [gh_ca20, gh_u_n _ _ (by omega), gh_u_s, c]; rfl) (fun b' hb' => by
        rcases hb' with ⟨h, _⟩ | h
        · omega
        · rw [gh_wh20 h]; exact ⟨hR.1, fun _ => hR.2 (by omega)⟩)
      obtain ⟨b', hb', hfr⟩ := gh_fresh g' b
      have J4 : gh_J a b K ex (gh_u (fun h k => if h = 20 ∧ (k = y ∨ cx 20 k = [(1, b), (0, a)] ∨ k = x) then none else if 22 ≤ h then none else pl h k) 20 x (some t)) (gh_u cb 20 x (gh_ou (cb 20 y))) (gh_c0 a) g' V := by
        refine gh_J_eq J3 (fun k => ?_) (fun h k hk => ?_) (fun h k hk => ?_) (fun h k hk => ?_) (fun k => Or.inl rfl)
        · simp [gh_u]
        · simp [gh_u, hk]
        · simp [gh_u, hk]
        · simp [gh_u, hk]
      exact ⟨b', g', fin (gh_J_b J4 hfr (fun h k _ => gh_c0_x h k))⟩
    · -- TRN
      have hB := hacc (by omega)
      have hp : ∃ i, g t = (2, i) :: [(1, b), (0, a)] := by
        rw [c, hB] at hE
        rcases gh_E_lv (by rw [hB] at hlv; exact hlv) (by decide) hE with ⟨h, _⟩ | ⟨_, i, h⟩ | ⟨h, _⟩ | ⟨h, _⟩ | ⟨h, _⟩
        · omega
        · exact ⟨i, h⟩
        · omega
        · omega
        · omega
      obtain ⟨i, hp⟩ := hp
      obtain ⟨J3, _, _, _⟩ := gh_J_s (E := [(1, b), (0, a)]) J2 p22 (by rw [ca22]; omega) (by rw [ce22]; exact hlv) (gh_cel_ok (Or.inr rfl)).1 (by rw [hp]; rfl) (fun _ => ⟨[], gh_T_nil, by rw [ce22, hB]; rfl⟩)
      have J4 := drop J3
      have hgt : gh_s (g t) [(1, b), (0, a)] (g t) = [(1, b), (0, a)] := gh_s_y (g t) _ []
      obtain ⟨b', hb', hfr⟩ := gh_fresh (fun u => gh_s (g t) [(1, b), (0, a)] (g u)) b
      refine ⟨b', _, fin (gh_J_b0 (c := 0) J4 hb' hfr (by rw [cbx, c]; rfl) ?_ (fun _ => ?_) ⟨hR.1, fun _ => hR.2 (by omega)⟩)⟩
      · show gh_E 0 [(0, a)] (gh_s (g t) _ (g t))
        rw [hgt]; exact Or.inr (Or.inr (Or.inr ⟨a0v, Or.inl ⟨rfl, b, rfl⟩⟩))
      · show gh_n (gh_s (g t) _ (g t)) = _
        rw [hgt]; rfl
    · -- REF
      have hB := hacc (by omega)
      have hp : g t = [(1, b), (0, a)] := by
        rw [c, hB] at hE
        rcases gh_E_lv (by rw [hB] at hlv; exact hlv) (by decide) hE with ⟨h, _⟩ | ⟨h, _⟩ | ⟨_, h⟩ | ⟨h, _⟩ | ⟨h, _⟩
        · omega
        · omega
        · exact h
        · omega
        · omega
      obtain ⟨b', hb', hfr⟩ := gh_fresh g b
      refine ⟨b', _, fin (gh_J_b0 (c := 0) RE hb' hfr (by rw [cbx, c]; rfl) ?_ (fun _ => ?_) ⟨hR.1, fun _ => hR.2 (by omega)⟩)⟩
      · rw [hp]; exact Or.inr (Or.inr (Or.inr ⟨a0v, Or.inl ⟨rfl, b, rfl⟩⟩))
      · rw [hp]; rfl
    · -- VAL
      have hp : g t = gh_F := by
        rw [c] at hE
        rcases gh_E_lv hlv (by decide) hE with ⟨h, _⟩ | ⟨h, _⟩ | ⟨h, _⟩ | ⟨_, h⟩ | ⟨h, _⟩
        · omega
        · omega
        · omega
        · exact h
        · omega
      obtain ⟨b', hb', hfr⟩ := gh_fresh g b
      refine ⟨b', _, fin (gh_J_b0 (c := 3) RE hb' hfr (by rw [cbx, c]; rfl) ?_ (fun h => by omega) ⟨hR.1, fun _ => hR.2 (by omega)⟩)⟩
      rw [hp]; exact gh_E_F a0v (by decide)
    · -- BOX
      have hB := hacc (by omega)
      have J4 := gh_J_zB RE (fun h k _ => gh_c0_x h k)
      have hp : gh_z [(1, b), (0, a)] (g t) = gh_F := by
        rw [c, hB] at hE
        rcases gh_E_lv (by rw [hB] at hlv; exact hlv) (by decide) hE with ⟨h, _⟩ | ⟨h, _⟩ | ⟨h, _⟩ | ⟨h, _⟩ | ⟨_, h⟩
        · omega
        · omega
        · omega
        · omega
        · rcases h with h | ⟨q, _, h⟩
          · rw [h]; exact gh_z_n (gh_sf_F (by simp))
          · rw [h]; exact gh_z_y (List.suffix_append _ _)
      obtain ⟨b', hb', hfr⟩ := gh_fresh (fun u => gh_z [(1, b), (0, a)] (g u)) b
      refine ⟨b', _, fin (gh_J_b0 (c := 3) J4 hb' hfr (by rw [cbx, c]; rfl) ?_ (fun h => by omega) ⟨hR.1, fun _ => hR.2 (by omega)⟩)⟩
      show gh_E 3 _ (gh_z _ (g t))
      rw [hp]; exact gh_E_F a0v (by decide)
    · -- TAG
      obtain ⟨b', hb', hfr⟩ := gh_fresh g b
      exact ⟨b', _, fin (gh_J_b0 (c := 5) RE hb' hfr (by rw [cbx, c]; rfl) (Or.inl (by decide)) (fun h => by omega) ⟨hR.1, fun h => by omega⟩)⟩
end
