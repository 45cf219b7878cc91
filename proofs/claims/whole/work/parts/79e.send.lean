/-! SEND: what a local has goes into a message -/
section
variable {a b : Nat} {K K' : Nat → Nat → Prop} {ex ex' : Nat → Prop} {pl pl' : Nat → Nat → Option Nat} {cb cb' : Nat → Nat → Nat} {cx cx' : Nat → Nat → gh_P} {g : Nat → gh_P} {V : Nat → Nat → Prop} {P : gh_P}
theorem gh_nil_lv : gh_lv [] := ⟨(by intro e; cases e), (by intro e; cases e)⟩
theorem gh_wh21 {b' : Nat} : ¬ gh_wh a b' 21 := by
  rintro (⟨h, h'⟩ | ⟨_, _, h⟩)
  · omega
  · exact h rfl
theorem gh_ca21 (x : Nat) : gh_ca cb 21 x = cb 21 x := if_neg (by decide)
theorem gh_ce21 (x : Nat) : gh_ce g cx 21 x = cx 21 x := by unfold gh_ce; rw [if_neg (by decide), if_neg (by decide)]
/-- by VAL or TAG -/
theorem gh_st_send {z m c t : Nat} (H : gh_J a b K ex pl cb cx g V) (ht : pl 20 z = some t) (hm' : cx 21 m = []) (hc : c = 5 ∨ (c = 3 ∧ (cb 20 z = 0 ∨ cb 20 z = 1 ∨ cb 20 z = 3))) : ∃ g', gh_J a b K ex (gh_u (gh_u pl 20 z none) 21 m (some t)) (gh_u cb 21 m c) cx g' V := by
  have hcb : ∀ x y, ¬ (x = 21 ∧ y = m) → gh_ca (gh_u cb 21 m c) x y = gh_ca cb x y := by
    intro x y e; unfold gh_ca; rw [gh_u_n _ _ e]
  have hcm : gh_ca (gh_u cb 21 m c) 21 m = c := by rw [gh_ca21, gh_u_s]
  have hK : ∀ b', (21 < 16 ∧ V b' 21 ∨ gh_wh a b' 21) → K b' t ∧ (c < 5 → V b' t) := by
    rintro b' (⟨h, _⟩ | h)
    · omega
    · exact absurd h gh_wh21
  have hlv := gh_ok_lv (gh_cel_ok (gh_J_c20 H z)).1
  have hE := H.1.1 20 z t ht
  rw [gh_ca20, gh_ce20] at hE
  rcases hc with rfl | ⟨rfl, h | h | h⟩
  · exact ⟨g, gh_J_set (gh_J_rm H 20 z) hcb hcm (Or.inl (by decide)) (fun h => by omega) hK⟩
  · obtain ⟨J, hce⟩ := gh_J_z H ht (by rw [gh_ca20]; omega) (by rw [gh_ce20]; exact hlv)
    refine ⟨_, gh_J_set J hcb hcm ?_ (fun h => by omega) hK⟩
    rw [gh_ce21, hm']
    show gh_E 3 [] (gh_z (g t) (g t))
    rw [gh_z_y (List.suffix_refl _)]; exact gh_E_F gh_nil_lv (by decide)
  · obtain ⟨J, hce⟩ := gh_J_z H ht (by rw [gh_ca20]; omega) (by rw [gh_ce20]; exact hlv)
    refine ⟨_, gh_J_set J hcb hcm ?_ (fun h => by omega) hK⟩
    rw [gh_ce21, hm']
    show gh_E 3 [] (gh_z (g t) (g t))
    rw [gh_z_y (List.suffix_refl _)]; exact gh_E_F gh_nil_lv (by decide)
  · refine ⟨g, gh_J_set (gh_J_rm H 20 z) hcb hcm ?_ (fun h => by omega) hK⟩
    rw [gh_ce21, hm']
    rw [h] at hE
    rcases gh_E_lv hlv (by decide) hE with ⟨h, _⟩ | ⟨h, _⟩ | ⟨h, _⟩ | ⟨_, h⟩ | ⟨h, _⟩
    · omega
    · omega
    · omega
    · rw [h]; exact gh_E_F gh_nil_lv (by decide)
    · omega
/-- by ISO: the island leaves the actor -/
theorem gh_st_iso {z m t : Nat} (H : gh_J a b K ex pl cb cx g V) (ht : pl 20 z = some t) (hz : cb 20 z = 0) (hm' : cx 21 m = []) : ∃ g' V', gh_J a b K ex (gh_u (gh_u pl 20 z none) 21 m (some t)) (gh_u cb 21 m 0) cx g' V' := by
  obtain ⟨n, hnb, hn⟩ := gh_fresh g b
  have hlv := gh_ok_lv (gh_cel_ok (gh_J_c20 H z)).1
  have hE := H.1.1 20 z t ht
  rw [gh_ca20, gh_ce20] at hE
  obtain ⟨l, hl, hp⟩ := gh_e_lbl (by omega) hlv hE
  have hl1 : l.1 = 1 := by rcases hl with h | h <;> omega
  have hlb : l.2 ≠ b := by
    have := H.2.2.2.2.1 20 z t ht (by rw [gh_ca20]; omega) (by rw [gh_ce20]; exact hlv)
    rw [hp] at this; intro e; exact this (by rw [← e]; rfl)
  have H' := gh_J_rm H 20 z
  have hbd : ∀ x y u, gh_u pl 20 z none x y = some u → gh_ca cb x y < 2 → gh_lv (gh_ce g cx x y) → g u ≠ l :: cx 20 z := by
    intro x y u hu hc' hv' e
    by_cases ex : x = 20 ∧ y = z
    · obtain ⟨rfl, rfl⟩ := ex; rw [gh_u_s] at hu; cases hu
    · rw [gh_u_n _ _ ex] at hu
      exact ex (H.1.2 x y u 20 z t hu ht hc' (by rw [gh_ca20]; omega) hv' (by rw [gh_ce20]; exact hlv) (by rw [e, hp]))
  -- no edge from outside
  have hin : ∀ x y u, gh_u pl 20 z none x y = some u → gh_ca cb x y < 5 → gh_ce g cx x y ≠ gh_D → ¬ (l :: cx 20 z) <:+ gh_ce g cx x y → ¬ (l :: cx 20 z) <:+ g u := by
    intro x y u hu hc hD hs hs'
    rcases H'.1.1 x y u hu with h | h | ⟨_, h⟩ | ⟨hv, h⟩
    · omega
    · exact hD h
    · rw [h] at hs'; exact gh_sf_F (by omega) hs'
    · rcases gh_e_in (by omega) h hs hs' with ⟨h1, h2⟩ | ⟨_, h2, _⟩
      · exact hbd x y u hu h1 hv h2
      · omega
  have E0 : gh_ok [((1 : Nat), n)] := ⟨(1, n), rfl, by simp⟩
  have I1 := gh_I_s (E := [(1, n)]) H'.1 (by omega) E0 hbd (fun h => by omega)
  have ceq : ∀ x y, gh_ce (fun u => gh_s (l :: cx 20 z) [(1, n)] (g u)) cx x y = gh_s (l :: cx 20 z) [(1, n)] (gh_ce g cx x y) := fun x y => (gh_ce_s (E := [(1, n)]) (by omega) hlb H.2.2.2.2.2 x y).2.1
  have nsx : ∀ x y, ¬ x < 16 → ¬ (l :: cx 20 z) <:+ gh_ce g cx x y := fun x y => (gh_ce_s (E := [(1, n)]) (by omega) hlb H.2.2.2.2.2 x y).1
  have lvb : ∀ x y, gh_lv (gh_s (l :: cx 20 z) [(1, n)] (gh_ce g cx x y)) → gh_lv (gh_ce g cx x y) := by
    intro x y hh
    constructor
    · intro e; rw [e, gh_s_n (gh_sf_F (by omega))] at hh; exact hh.1 rfl
    · intro e; rw [e, gh_s_n (gh_sf_D (by omega))] at hh; exact hh.2 rfl
  have J1 : gh_J a b K ex (gh_u pl 20 z none) cb cx (fun u => gh_s (l :: cx 20 z) [(1, n)] (g u)) (fun b' o => V b' o ∧ ¬ (l :: cx 20 z) <:+ g o) := by
    refine ⟨gh_I_mono I1 (fun x y u hu => ⟨hu, rfl, ceq x y⟩), ⟨fun b' o ho => ?_, fun b' o ho => ?_⟩, ⟨fun b' o o16 hv => ?_, fun b' h k u hw hu => ?_⟩, fun o ho => H.2.2.2.1 o (fun e => ho ?_), fun x y u hu hc' hv' => ?_, H.2.2.2.2.2⟩
    · by_cases hs : (l :: cx 20 z) <:+ g o
      · obtain ⟨q, hq⟩ := hs
        simp only [← hq, gh_s_y] at ho
        rw [gh_last_app (by simp)] at ho; simp at ho
      · simp only [gh_s_n hs] at ho; exact ⟨H.2.1.1 b' o ho, hs⟩
    · simp only [gh_s_n ho.2]; exact H.2.1.2 b' o ho.1
    · have := H'.2.2.1.1 b' o o16 hv.1
      refine ⟨this.1, fun k u hu => ⟨(this.2 k u hu).1, fun h5 => ⟨(this.2 k u hu).2 h5, ?_⟩⟩⟩
      have e1 : gh_ce g cx o k = g o := if_pos o16
      refine hin o k u hu (by unfold gh_ca; rw [if_pos (by omega)]; exact h5) (by
        rw [e1]; intro e
        rcases H.2.1.2 b' o hv.1 with h | h
        · rw [e] at h; cases h
        · rw [e] at h; simp [gh_D] at h) (by rw [e1]; exact hv.2)
    · have := H'.2.2.1.2 b' h k u hw hu
      refine ⟨this.1, fun h5 => ⟨this.2 h5, ?_⟩⟩
      have h16 : ¬ h < 16 := by rcases hw with ⟨h, _⟩ | ⟨_, h, _⟩ <;> omega
      refine hin h k u hu h5 ?_ (nsx h k h16)
      unfold gh_ce; rw [if_neg h16]
      by_cases h20 : h < 20
      · rw [if_pos h20]; intro e; injection e with e _; injection e with e _; omega
      · rw [if_neg h20]
        rcases H.2.2.2.2.2 h k (by omega) with e | e | ⟨_, e⟩ <;> rw [e] <;> intro e' <;> simp [gh_D] at e'
    · show gh_s _ _ (g o) = gh_D
      rw [e]; exact gh_s_n (gh_sf_D (by omega))
    · rw [ceq] at hv'
      have hv2 := lvb x y hv'
      obtain ⟨m', _, hm''⟩ := gh_e_lbl hc' hv2 (H'.1.1 x y u hu)
      have hne := hbd x y u hu hc' hv2
      have := H'.2.2.2.2.1 x y u hu hc' hv2
      rw [hm''] at hne this
      show gh_n (gh_s _ _ (g u)) ≠ _
      rw [hm'', gh_s_cons hne]; exact this
  have hgt : gh_s (l :: cx 20 z) [(1, n)] (g t) = [(1, n)] := by rw [hp]; exact gh_s_y _ _ []
  refine ⟨_, _, gh_J_set (t := t) (c := 0) (cb' := gh_u cb 21 m 0) J1 (fun x y e => by unfold gh_ca; rw [gh_u_n _ _ e]) (by rw [gh_ca21, gh_u_s]) ?_ (fun _ => ⟨?_, fun x y u hu hc' hv' _ => ?_⟩) ?_⟩
  · rw [gh_ce21, hm']
    show gh_E 0 [] (gh_s _ _ (g t))
    rw [hgt]; exact Or.inr (Or.inr (Or.inr ⟨gh_nil_lv, Or.inl ⟨rfl, n, rfl⟩⟩))
  · show gh_n (gh_s _ _ (g t)) ≠ _
    rw [hgt]; intro e; injection e with e; exact hnb e
  · rw [ceq] at hv'
    have hv2 := lvb x y hv'
    obtain ⟨m', _, hm''⟩ := gh_e_lbl hc' hv2 (H'.1.1 x y u hu)
    have hne := hbd x y u hu hc' hv2
    have h16 := (gh_J_ex H' hu (by omega) hv2.2).1
    rw [hm''] at hne
    show gh_n (gh_s _ _ (g u)) ≠ gh_n (gh_s _ _ (g t))
    rw [hgt, hm'', gh_s_cons hne]
    intro e
    have e' : m'.2 = n := by injection e
    exact hn u h16 m' (by rw [hm'']; exact List.mem_cons_self) e'
  · rintro b' (⟨h, _⟩ | h)
    · omega
    · exact absurd h gh_wh21
end
