/-! The whole of it: cells, what actors see and hold; b is the label of the block -/
def gh_J (a b : Nat) (K : Nat → Nat → Prop) (ex : Nat → Prop) (pl : Nat → Nat → Option Nat) (cb : Nat → Nat → Nat) (cx : Nat → Nat → gh_P) (g : Nat → gh_P) (V : Nat → Nat → Prop) : Prop :=
  gh_I pl (gh_ca cb) (gh_ce g cx) g ∧ gh_V g V ∧ gh_C a K pl (gh_ca cb) V ∧ (∀ o, g o ≠ gh_D → o < 16 ∧ ex o) ∧
  (∀ h k t, pl h k = some t → gh_ca cb h k < 2 → gh_lv (gh_ce g cx h k) → gh_n (g t) ≠ some b) ∧
  ∀ h k, 20 ≤ h → cx h k = [(0, a)] ∨ cx h k = [(1, b), (0, a)] ∨ (h = 21 ∧ cx h k = [])
section
variable {a b : Nat} {K : Nat → Nat → Prop} {ex : Nat → Prop} {pl pl' : Nat → Nat → Option Nat} {cb cb' : Nat → Nat → Nat} {cx cx' : Nat → Nat → gh_P} {g : Nat → gh_P} {V : Nat → Nat → Prop}
theorem gh_J_mono (H : gh_J a b K ex pl cb cx g V) (h : ∀ h k t, pl' h k = some t → pl h k = some t ∧ gh_ca cb' h k = gh_ca cb h k ∧ (20 ≤ h → cx' h k = cx h k)) (hx : ∀ h k, 20 ≤ h → cx' h k = [(0, a)] ∨ cx' h k = [(1, b), (0, a)] ∨ (h = 21 ∧ cx' h k = [])) : gh_J a b K ex pl' cb' cx' g V := by
  obtain ⟨h1, h2, h3, h4, h5, h6⟩ := H
  have hce : ∀ x k t, pl' x k = some t → gh_ce g cx' x k = gh_ce g cx x k := by
    intro x k t ht
    unfold gh_ce
    by_cases e : x < 16
    · rw [if_pos e, if_pos e]
    · rw [if_neg e, if_neg e]
      by_cases e' : x < 20
      · rw [if_pos e', if_pos e']
      · rw [if_neg e', if_neg e']; exact (h x k t ht).2.2 (by omega)
  refine ⟨gh_I_mono h1 (fun x k t ht => ⟨(h x k t ht).1, (h x k t ht).2.1, hce x k t ht⟩), h2, gh_C_mono h3 (fun x k t ht => ⟨(h x k t ht).1, (h x k t ht).2.1⟩), h4, fun x k t ht hc hv => ?_, hx⟩
  rw [(h x k t ht).2.1] at hc
  rw [hce x k t ht] at hv
  exact h5 x k t (h x k t ht).1 hc hv
theorem gh_J_set {h k t c : Nat} (H : gh_J a b K ex pl cb cx g V) (hcb : ∀ x y, ¬ (x = h ∧ y = k) → gh_ca cb' x y = gh_ca cb x y) (hc : gh_ca cb' h k = c) (hE : gh_E c (gh_ce g cx h k) (g t)) (hU : c < 2 → gh_n (g t) ≠ some b ∧ ∀ h' k' t', pl h' k' = some t' → gh_ca cb h' k' < 2 → gh_lv (gh_ce g cx h' k') → ¬ (h' = h ∧ k' = k) → gh_n (g t') ≠ gh_n (g t)) (hK : ∀ b, (h < 16 ∧ V b h ∨ gh_wh a b h) → K b t ∧ (c < 5 → V b t)) : gh_J a b K ex (gh_u pl h k (some t)) cb' cx g V := by
  obtain ⟨h1, h2, h3, h4, h5, h6⟩ := H
  have e : gh_u (gh_ca cb) h k c = gh_ca cb' := by
    funext x y
    by_cases e : x = h ∧ y = k
    · obtain ⟨rfl, rfl⟩ := e; rw [gh_u_s, hc]
    · rw [gh_u_n _ _ e, hcb x y e]
  refine ⟨?_, h2, ?_, h4, fun x y u hu hc' hv => ?_, h6⟩
  · rw [← e]; exact gh_I_set h1 hE (fun c2 => (hU c2).2)
  · rw [← e]
    refine gh_C_set h3 (fun hh => ?_) hK
    rw [← hc]; unfold gh_ca; rw [if_pos (by omega)]
  · by_cases e : x = h ∧ y = k
    · obtain ⟨rfl, rfl⟩ := e
      rw [gh_u_s] at hu; injection hu with hu; subst hu
      rw [hc] at hc'
      exact (hU hc').1
    · rw [gh_u_n _ _ e] at hu
      rw [hcb x y e] at hc'
      exact h5 x y u hu hc' hv
/-- the place is emptied -/
theorem gh_J_rm (H : gh_J a b K ex pl cb cx g V) (h k : Nat) : gh_J a b K ex (gh_u pl h k none) cb cx g V := by
  refine gh_J_mono H (fun x y u hu => ?_) H.2.2.2.2.2
  by_cases e : x = h ∧ y = k
  · obtain ⟨rfl, rfl⟩ := e; rw [gh_u_s] at hu; cases hu
  · rw [gh_u_n _ _ e] at hu; exact ⟨hu, rfl, fun _ => rfl⟩
theorem gh_ce_s {l : Nat × Nat} {P0 E : gh_P} (hl : l.1 = 1 ∨ l.1 = 2) (hb : l.2 ≠ b) (h6 : ∀ h k, 20 ≤ h → cx h k = [(0, a)] ∨ cx h k = [(1, b), (0, a)] ∨ (h = 21 ∧ cx h k = [])) (h k : Nat) : (¬ h < 16 → ¬ (l :: P0) <:+ gh_ce g cx h k) ∧ gh_ce (fun t => gh_s (l :: P0) E (g t)) cx h k = gh_s (l :: P0) E (gh_ce g cx h k) ∧ gh_ce (fun t => gh_z (l :: P0) (g t)) cx h k = gh_z (l :: P0) (gh_ce g cx h k) := by
  have n0 : ∀ m, ¬ (l :: P0) <:+ [((0 : Nat), m)] := by
    intro m hs; have := gh_sf_one hs; subst this; simp at hl
  unfold gh_ce
  by_cases e : h < 16
  · rw [if_pos e, if_pos e, if_pos e]; exact ⟨fun h => absurd e h, rfl, rfl⟩
  · rw [if_neg e, if_neg e, if_neg e]
    by_cases e' : h < 20
    · rw [if_pos e', gh_s_n (n0 _), gh_z_n (n0 _)]; exact ⟨fun _ => n0 _, rfl, rfl⟩
    · rw [if_neg e']
      have : ¬ (l :: P0) <:+ cx h k := by
        rcases h6 h k (by omega) with q | q | ⟨_, q⟩
        · rw [q]; exact n0 _
        · rw [q]; intro hs
          rcases gh_sf_cons.mp hs with hs | hs
          · injection hs with hs _; rw [hs] at hb; exact hb rfl
          · exact n0 _ hs
        · rw [q]; exact gh_sf_nil
      rw [gh_s_n this, gh_z_n this]; exact ⟨fun _ => this, rfl, rfl⟩
/-- what one ISO or TRN reference holds goes, with all above it, to the cell E; the place is emptied -/
theorem gh_J_s {h k t : Nat} {E : gh_P} (H : gh_J a b K ex pl cb cx g V) (ht : pl h k = some t) (hc : gh_ca cb h k < 2) (hv : gh_lv (gh_ce g cx h k)) (hE : gh_ok E) (hL : (g t).getLast? = E.getLast?) (hT : gh_ca cb h k = 1 → ∃ q, gh_T q ∧ E = q ++ gh_ce g cx h k) : gh_J a b K ex (gh_u pl h k none) cb cx (fun u => gh_s (g t) E (g u)) V ∧ (∀ x y u, gh_u pl h k none x y = some u → gh_ca cb x y < 2 → gh_lv (gh_ce g cx x y) → gh_n (gh_s (g t) E (g u)) = gh_n (g u)) ∧ (∀ x y, gh_lv (gh_ce (fun u => gh_s (g t) E (g u)) cx x y) → gh_lv (gh_ce g cx x y)) ∧ ∀ x y, gh_ce (fun u => gh_s (g t) E (g u)) cx x y = gh_s (g t) E (gh_ce g cx x y) := by
  have H' := gh_J_rm H h k
  obtain ⟨l, hl, hp⟩ := gh_e_lbl hc hv (H.1.1 h k t ht)
  have hlb : l.2 ≠ b := by
    have := H.2.2.2.2.1 h k t ht hc hv
    rw [hp] at this; intro e; exact this (by rw [← e]; rfl)
  have hl' : l.1 = 1 ∨ l.1 = 2 := by rcases hl with h | h <;> omega
  have hl3 : l.1 < 3 := by omega
  have hbd : ∀ x y u, gh_u pl h k none x y = some u → gh_ca cb x y < 2 → gh_lv (gh_ce g cx x y) → g u ≠ l :: gh_ce g cx h k := by
    intro x y u hu hc' hv' e
    by_cases ex : x = h ∧ y = k
    · obtain ⟨rfl, rfl⟩ := ex; rw [gh_u_s] at hu; cases hu
    · rw [gh_u_n _ _ ex] at hu
      exact ex (H.1.2 x y u h k t hu ht hc' hc hv' hv (by rw [e, hp]))
  have hhd : ∀ x y u, gh_u pl h k none x y = some u → gh_ca cb x y < 2 → gh_lv (gh_ce g cx x y) → gh_n (gh_s (g t) E (g u)) = gh_n (g u) := by
    intro x y u hu hc' hv'
    obtain ⟨m, _, hm⟩ := gh_e_lbl hc' hv' (H'.1.1 x y u hu)
    have := hbd x y u hu hc' hv'
    rw [hp]
    rw [hm] at this ⊢
    rw [gh_s_cons this]; rfl
  have hlv : ∀ x y, gh_lv (gh_ce (fun u => gh_s (g t) E (g u)) cx x y) → gh_lv (gh_ce g cx x y) := by
    intro x y hh
    rw [hp, (gh_ce_s (E := E) hl' hlb H.2.2.2.2.2 x y).2.1] at hh
    constructor
    · intro e; rw [e, gh_s_n (gh_sf_F hl3)] at hh; exact hh.1 rfl
    · intro e; rw [e, gh_s_n (gh_sf_D hl3)] at hh; exact hh.2 rfl
  refine ⟨⟨?_, ?_, H'.2.2.1, fun o ho => H.2.2.2.1 o (fun e => ho ?_), fun x y u hu hc' hv' => ?_, H.2.2.2.2.2⟩, hhd, hlv, fun x y => by rw [hp]; exact (gh_ce_s hl' hlb H.2.2.2.2.2 x y).2.1⟩
  · have := gh_I_s (E := E) H'.1 hl3 hE hbd (fun e => hT (by rcases hl with h | h <;> omega))
    rw [hp]
    refine gh_I_mono this (fun x y u hu => ⟨hu, rfl, (gh_ce_s hl' hlb H.2.2.2.2.2 x y).2.1⟩)
  · rw [hp] at hL ⊢; exact gh_V_s H.2.1 hl3 hL (gh_ok_ne hE)
  · show gh_s (g t) E (g o) = gh_D
    rw [e, hp]; exact gh_s_n (gh_sf_D hl3)
  · have hv2 := hlv x y hv'
    show gh_n (gh_s (g t) E (g u)) ≠ _
    rw [hhd x y u hu hc' hv2]
    exact H'.2.2.2.2.1 x y u hu hc' hv2
/-- it is frozen -/
theorem gh_J_z {h k t : Nat} (H : gh_J a b K ex pl cb cx g V) (ht : pl h k = some t) (hc : gh_ca cb h k < 2) (hv : gh_lv (gh_ce g cx h k)) : gh_J a b K ex (gh_u pl h k none) cb cx (fun u => gh_z (g t) (g u)) V ∧ ∀ x y, gh_ce (fun u => gh_z (g t) (g u)) cx x y = gh_z (g t) (gh_ce g cx x y) := by
  have H' := gh_J_rm H h k
  obtain ⟨l, hl, hp⟩ := gh_e_lbl hc hv (H.1.1 h k t ht)
  have hlb : l.2 ≠ b := by
    have := H.2.2.2.2.1 h k t ht hc hv
    rw [hp] at this; intro e; exact this (by rw [← e]; rfl)
  have hl' : l.1 = 1 ∨ l.1 = 2 := by rcases hl with h | h <;> omega
  have hl3 : l.1 < 3 := by omega
  have hbd : ∀ x y u, gh_u pl h k none x y = some u → gh_ca cb x y < 2 → gh_lv (gh_ce g cx x y) → g u ≠ l :: gh_ce g cx h k := by
    intro x y u hu hc' hv' e
    by_cases ex : x = h ∧ y = k
    · obtain ⟨rfl, rfl⟩ := ex; rw [gh_u_s] at hu; cases hu
    · rw [gh_u_n _ _ ex] at hu
      exact ex (H.1.2 x y u h k t hu ht hc' hc hv' hv (by rw [e, hp]))
  refine ⟨⟨?_, ?_, H'.2.2.1, fun o ho => H.2.2.2.1 o (fun e => ho ?_), fun x y u hu hc' hv' => ?_, H.2.2.2.2.2⟩, fun x y => by rw [hp]; exact (gh_ce_s (E := []) hl' hlb H.2.2.2.2.2 x y).2.2⟩
  · have := gh_I_z H'.1 hl3 hbd
    rw [hp]
    refine gh_I_mono this (fun x y u hu => ⟨hu, rfl, (gh_ce_s (E := []) hl' hlb H.2.2.2.2.2 x y).2.2⟩)
  · exact gh_V_z H.2.1
  · show gh_z (g t) (g o) = gh_D
    rw [e, hp]; exact gh_z_n (gh_sf_D hl3)
  · rw [hp, (gh_ce_s (E := []) hl' hlb H.2.2.2.2.2 x y).2.2] at hv'
    by_cases hs : (l :: gh_ce g cx h k) <:+ gh_ce g cx x y
    · rw [gh_z_y hs] at hv'; exact absurd rfl hv'.1
    rw [gh_z_n hs] at hv'
    obtain ⟨m, _, hm⟩ := gh_e_lbl hc' hv' (H'.1.1 x y u hu)
    have hne := hbd x y u hu hc' hv'
    have := H'.2.2.2.2.1 x y u hu hc' hv'
    show gh_n (gh_z (g t) (g u)) ≠ _
    rw [gh_z_n]
    · exact this
    · rw [hp, hm]
      intro hs'
      rcases gh_sf_cons.mp hs' with hs' | hs'
      · rw [hm] at hne; exact hne hs'.symm
      · exact hs hs'
end
