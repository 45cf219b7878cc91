/-! Ghosts: each object lies in a cell. A cell is a list of labels, the newest first: (0, a) actor a, (1, i) behind the one ISO reference with label i, (2, i) behind the one TRN reference with label i; frozen and dead have a cell of their own. -/
abbrev gh_P : Type := List (Nat × Nat)
def gh_F : gh_P := [(3, 0)]
def gh_D : gh_P := [(4, 0)]
def gh_lv (P : gh_P) : Prop := P ≠ gh_F ∧ P ≠ gh_D
def gh_T (q : gh_P) : Prop := ∀ l, l ∈ q → l.1 = 2
/-- what a reference by capability c out of the living cell P to an object in p asks -/
def gh_e (c : Nat) (P p : gh_P) : Prop := (c = 0 ∧ ∃ i, p = (1, i) :: P) ∨ (c = 1 ∧ ∃ i, p = (2, i) :: P) ∨ (c = 2 ∧ p = P) ∨ (c = 3 ∧ p = gh_F) ∨ (c = 4 ∧ (p = gh_F ∨ ∃ q, gh_T q ∧ p = q ++ P))
def gh_E (c : Nat) (P p : gh_P) : Prop := 5 ≤ c ∨ P = gh_D ∨ (P = gh_F ∧ p = gh_F) ∨ (gh_lv P ∧ gh_e c P p)
/-- the number of the newest label -/
def gh_n (p : gh_P) : Option Nat := p.head?.map (·.2)
/-- every cell above D goes over to E -/
def gh_s (D E p : gh_P) : gh_P := if D <:+ p then p.take (p.length - D.length) ++ E else p
/-- every cell above D is frozen -/
def gh_z (D p : gh_P) : gh_P := if D <:+ p then gh_F else p
theorem gh_s_y (D E q : gh_P) : gh_s D E (q ++ D) = q ++ E := by
  unfold gh_s
  rw [if_pos (List.suffix_append q D)]
  simp
theorem gh_s_n {D E p : gh_P} (h : ¬ D <:+ p) : gh_s D E p = p := if_neg h
theorem gh_z_y {D p : gh_P} (h : D <:+ p) : gh_z D p = gh_F := if_pos h
theorem gh_z_n {D p : gh_P} (h : ¬ D <:+ p) : gh_z D p = p := if_neg h
theorem gh_sf_cons {l m : Nat × Nat} {P0 P : gh_P} : (l :: P0) <:+ (m :: P) ↔ l :: P0 = m :: P ∨ (l :: P0) <:+ P := List.suffix_cons_iff
theorem gh_sf_nil {l : Nat × Nat} {P0 : gh_P} : ¬ (l :: P0) <:+ [] := by
  intro h; have := List.IsSuffix.length_le h; simp at this
theorem gh_sf_one {l m : Nat × Nat} {P0 : gh_P} (h : (l :: P0) <:+ [m]) : l = m := by
  rcases gh_sf_cons.mp h with h | h
  · injection h
  · exact absurd h gh_sf_nil
theorem gh_sf_F {l : Nat × Nat} {P0 : gh_P} (hl : l.1 < 3) : ¬ (l :: P0) <:+ gh_F := by
  intro h; have := gh_sf_one h; subst this; simp at hl
theorem gh_sf_D {l : Nat × Nat} {P0 : gh_P} (hl : l.1 < 3) : ¬ (l :: P0) <:+ gh_D := by
  intro h; have := gh_sf_one h; subst this; simp at hl
/-- a cell whose root is an actor or a message's island -/
def gh_ok (E : gh_P) : Prop := ∃ r : Nat × Nat, E.getLast? = some r ∧ r.1 < 3
theorem gh_last_app {q E : gh_P} (h : E ≠ []) : (q ++ E).getLast? = E.getLast? := by
  rw [List.getLast?_append]
  cases hh : E.getLast? with
  | none => exact absurd (List.getLast?_eq_none_iff.mp hh) h
  | some r => rfl
theorem gh_ok_ne {E : gh_P} (h : gh_ok E) : E ≠ [] := by
  rintro rfl; obtain ⟨r, h, _⟩ := h; simp at h
theorem gh_ok_app {E : gh_P} (h : gh_ok E) (q : gh_P) : gh_ok (q ++ E) := by
  have hn := gh_ok_ne h
  obtain ⟨r, h, h3⟩ := h
  exact ⟨r, by rw [gh_last_app hn, h], h3⟩
theorem gh_ok_lv {E : gh_P} (h : gh_ok E) : gh_lv E := by
  obtain ⟨r, h, h3⟩ := h
  constructor
  · rintro rfl; simp [gh_F] at h; subst h; simp at h3
  · rintro rfl; simp [gh_D] at h; subst h; simp at h3
theorem gh_s_cons {l m : Nat × Nat} {P0 E P : gh_P} (h : m :: P ≠ l :: P0) : gh_s (l :: P0) E (m :: P) = m :: gh_s (l :: P0) E P := by
  by_cases hs : (l :: P0) <:+ P
  · obtain ⟨q, rfl⟩ := hs
    rw [gh_s_y, show m :: (q ++ l :: P0) = (m :: q) ++ l :: P0 from rfl, gh_s_y]; rfl
  · rw [gh_s_n hs, gh_s_n]
    intro h'
    rcases gh_sf_cons.mp h' with h' | h'
    · exact h h'.symm
    · exact hs h'
/-- two lists that end alike: one of them goes on where the other ends -/
theorem gh_cut {l : Nat × Nat} {P0 P q : gh_P} (hs : (l :: P0) <:+ q ++ P) (hn : ¬ (l :: P0) <:+ P) : ∃ r s, q = r ++ l :: s ∧ P0 = s ++ P := by
  induction q with
  | nil => exact absurd hs hn
  | cons m q ih =>
    rcases gh_sf_cons.mp hs with h | h
    · injection h with h1 h2
      exact ⟨[], q, by rw [h1]; rfl, h2⟩
    · obtain ⟨r, s, h1, h2⟩ := ih h
      exact ⟨m :: r, s, by rw [h1]; rfl, h2⟩
theorem gh_T_app {q r : gh_P} : gh_T (q ++ r) ↔ gh_T q ∧ gh_T r := by
  unfold gh_T
  constructor
  · intro h; exact ⟨fun l hl => h l (List.mem_append_left _ hl), fun l hl => h l (List.mem_append_right _ hl)⟩
  · intro h l hl
    rcases List.mem_append.mp hl with h' | h'
    · exact h.1 l h'
    · exact h.2 l h'
theorem gh_T_nil : gh_T [] := by intro l h; cases h
theorem gh_T_cons {l : Nat × Nat} {q : gh_P} : gh_T (l :: q) ↔ l.1 = 2 ∧ gh_T q := by
  unfold gh_T; simp
/-- where an edge from outside goes into what lies above l :: P0 -/
theorem gh_e_in {c : Nat} {P p P0 : gh_P} {l : Nat × Nat} (hl : l.1 < 3) (h : gh_e c P p) (hP : ¬ (l :: P0) <:+ P) (hp : (l :: P0) <:+ p) : (c < 2 ∧ p = l :: P0) ∨ (c = 4 ∧ l.1 = 2 ∧ ∃ r s, gh_T r ∧ gh_T s ∧ p = r ++ l :: P0 ∧ P0 = s ++ P) := by
  rcases h with ⟨rfl, i, rfl⟩ | ⟨rfl, i, rfl⟩ | ⟨rfl, rfl⟩ | ⟨rfl, rfl⟩ | ⟨rfl, h⟩
  · rcases gh_sf_cons.mp hp with h | h
    · exact Or.inl ⟨by decide, h.symm⟩
    · exact absurd h hP
  · rcases gh_sf_cons.mp hp with h | h
    · exact Or.inl ⟨by decide, h.symm⟩
    · exact absurd h hP
  · exact absurd hp hP
  · exact absurd hp (gh_sf_F hl)
  · rcases h with rfl | ⟨q, hq, rfl⟩
    · exact absurd hp (gh_sf_F hl)
    · obtain ⟨r, s, rfl, rfl⟩ := gh_cut hp hP
      have := gh_T_app.mp hq
      have h2 := gh_T_cons.mp this.2
      exact Or.inr ⟨rfl, h2.1, r, s, this.1, h2.2, by simp, rfl⟩
theorem gh_E_s {c : Nat} {P p P0 E : gh_P} {l : Nat × Nat} (hl : l.1 < 3) (hE : gh_ok E) (h : gh_E c P p) (hb : c < 2 → gh_lv P → p ≠ l :: P0) (hT : l.1 = 2 → ∃ q, gh_T q ∧ E = q ++ P0) : gh_E c (gh_s (l :: P0) E P) (gh_s (l :: P0) E p) := by
  rcases h with h | rfl | ⟨rfl, rfl⟩ | ⟨hv, h⟩
  · exact Or.inl h
  · rw [gh_s_n (gh_sf_D hl)]; exact Or.inr (Or.inl rfl)
  · rw [gh_s_n (gh_sf_F hl)]; exact Or.inr (Or.inr (Or.inl ⟨rfl, rfl⟩))
  refine Or.inr (Or.inr (Or.inr ?_))
  by_cases hP : (l :: P0) <:+ P
  · obtain ⟨q, rfl⟩ := hP
    rw [gh_s_y]
    refine ⟨gh_ok_lv (gh_ok_app hE q), ?_⟩
    rcases h with ⟨rfl, i, rfl⟩ | ⟨rfl, i, rfl⟩ | ⟨rfl, rfl⟩ | ⟨rfl, rfl⟩ | ⟨rfl, h⟩
    · exact Or.inl ⟨rfl, i, by rw [show (1, i) :: (q ++ l :: P0) = ((1, i) :: q) ++ l :: P0 from rfl, gh_s_y]; rfl⟩
    · exact Or.inr (Or.inl ⟨rfl, i, by rw [show (2, i) :: (q ++ l :: P0) = ((2, i) :: q) ++ l :: P0 from rfl, gh_s_y]; rfl⟩)
    · exact Or.inr (Or.inr (Or.inl ⟨rfl, by rw [gh_s_y]⟩))
    · exact Or.inr (Or.inr (Or.inr (Or.inl ⟨rfl, gh_s_n (gh_sf_F hl)⟩)))
    · refine Or.inr (Or.inr (Or.inr (Or.inr ⟨rfl, ?_⟩)))
      rcases h with rfl | ⟨r, hr, rfl⟩
      · exact Or.inl (gh_s_n (gh_sf_F hl))
      · exact Or.inr ⟨r, hr, by rw [← List.append_assoc, gh_s_y, List.append_assoc]⟩
  · rw [gh_s_n hP]
    refine ⟨hv, ?_⟩
    by_cases hp : (l :: P0) <:+ p
    · rcases gh_e_in hl h hP hp with ⟨h1, h2⟩ | ⟨rfl, h2, r, s, hr, hs, rfl, rfl⟩
      · exact absurd h2 (hb h1 hv)
      · obtain ⟨q, hq, rfl⟩ := hT h2
        rw [gh_s_y]
        exact Or.inr (Or.inr (Or.inr (Or.inr ⟨rfl, Or.inr ⟨r ++ (q ++ s), gh_T_app.mpr ⟨hr, gh_T_app.mpr ⟨hq, hs⟩⟩, by simp⟩⟩)))
    · rw [gh_s_n hp]; exact h
theorem gh_E_z {c : Nat} {P p P0 : gh_P} {l : Nat × Nat} (hl : l.1 < 3) (h : gh_E c P p) (hb : c < 2 → gh_lv P → p ≠ l :: P0) : gh_E c (gh_z (l :: P0) P) (gh_z (l :: P0) p) := by
  rcases h with h | rfl | ⟨rfl, rfl⟩ | ⟨hv, h⟩
  · exact Or.inl h
  · rw [gh_z_n (gh_sf_D hl)]; exact Or.inr (Or.inl rfl)
  · rw [gh_z_n (gh_sf_F hl)]; exact Or.inr (Or.inr (Or.inl ⟨rfl, rfl⟩))
  by_cases hP : (l :: P0) <:+ P
  · rw [gh_z_y hP]
    refine Or.inr (Or.inr (Or.inl ⟨rfl, ?_⟩))
    rcases h with ⟨rfl, i, rfl⟩ | ⟨rfl, i, rfl⟩ | ⟨rfl, rfl⟩ | ⟨rfl, rfl⟩ | ⟨rfl, h⟩
    · exact gh_z_y (List.IsSuffix.trans hP (List.suffix_cons _ _))
    · exact gh_z_y (List.IsSuffix.trans hP (List.suffix_cons _ _))
    · exact gh_z_y hP
    · exact gh_z_n (gh_sf_F hl)
    · rcases h with rfl | ⟨r, hr, rfl⟩
      · exact gh_z_n (gh_sf_F hl)
      · exact gh_z_y (List.IsSuffix.trans hP (List.suffix_append _ _))
  · rw [gh_z_n hP]
    refine Or.inr (Or.inr (Or.inr ⟨hv, ?_⟩))
    by_cases hp : (l :: P0) <:+ p
    · rcases gh_e_in hl h hP hp with ⟨h1, h2⟩ | ⟨rfl, h2, r, s, hr, hs, rfl, rfl⟩
      · exact absurd h2 (hb h1 hv)
      · rw [gh_z_y hp]
        exact Or.inr (Or.inr (Or.inr (Or.inr ⟨rfl, Or.inl rfl⟩)))
    · rw [gh_z_n hp]; exact h
