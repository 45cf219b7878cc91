/-! GET, PUT, SWAP -/
theorem gh_E_lv {c : Nat} {P p : gh_P} (hv : gh_lv P) (hc : c < 5) (h : gh_E c P p) : gh_e c P p := by
  rcases h with h | h | ⟨h, _⟩ | ⟨_, h⟩
  · omega
  · exact absurd h hv.2
  · exact absurd h hv.1
  · exact h
theorem gh_lv_cons {l : Nat × Nat} {P : gh_P} (h : l.1 < 3) : gh_lv (l :: P) := by
  constructor
  · intro e; injection e with e _; rw [e] at h; simp at h
  · intro e; injection e with e _; rw [e] at h; simp at h
theorem gh_lv_app {q P : gh_P} (hq : gh_T q) (h : gh_lv P) : gh_lv (q ++ P) := by
  cases q with
  | nil => exact h
  | cons l q => exact gh_lv_cons (by rw [(gh_T_cons.mp hq).1]; decide)
theorem gh_E_F {c : Nat} {P : gh_P} (hv : gh_lv P) (hc : 3 ≤ c) : gh_E c P gh_F := by
  by_cases h5 : 5 ≤ c
  · exact Or.inl h5
  · rcases (show c = 3 ∨ c = 4 by omega) with rfl | rfl
    · exact Or.inr (Or.inr (Or.inr ⟨hv, Or.inr (Or.inr (Or.inr (Or.inl ⟨rfl, rfl⟩)))⟩))
    · exact Or.inr (Or.inr (Or.inr ⟨hv, Or.inr (Or.inr (Or.inr (Or.inr ⟨rfl, Or.inl rfl⟩)))⟩))
theorem gh_E_box {q P : gh_P} (hv : gh_lv P) (hq : gh_T q) : gh_E 4 P (q ++ P) := Or.inr (Or.inr (Or.inr ⟨hv, Or.inr (Or.inr (Or.inr (Or.inr ⟨rfl, Or.inr ⟨q, hq, rfl⟩⟩)))⟩))
theorem gh_al_2 {c : Nat} : 2 ≤ gh_al c := by
  unfold gh_al
  by_cases h0 : c = 0
  · rw [if_pos h0]; decide
  · rw [if_neg h0]
    by_cases h1 : c = 1
    · rw [if_pos h1]; decide
    · rw [if_neg h1]; omega
/-- what GET finds, from a cell q ++ P with TRN labels alone in q -/
theorem gh_view_T {f : Nat} {P q p : gh_P} (hv : gh_lv P) (hq : gh_T q) (hf : f < 5) (hf0 : f ≠ 0) (h : gh_E f (q ++ P) p) : gh_E 4 P p := by
  rcases gh_E_lv (gh_lv_app hq hv) hf h with ⟨h, _⟩ | ⟨_, i, rfl⟩ | ⟨_, rfl⟩ | ⟨_, rfl⟩ | ⟨_, h⟩
  · omega
  · exact gh_E_box (q := (2, i) :: q) hv (gh_T_cons.mpr ⟨rfl, hq⟩)
  · exact gh_E_box hv hq
  · exact gh_E_F hv (by decide)
  · rcases h with rfl | ⟨r, hr, rfl⟩
    · exact gh_E_F hv (by decide)
    · rw [← List.append_assoc]; exact gh_E_box hv (gh_T_app.mpr ⟨hr, hq⟩)
theorem gh_view {c f : Nat} {Pc P p q : gh_P} (hc : c < 5) (hf : f < 6) (hP : gh_lv P) (hPc : c = 1 ∨ c = 2 ∨ c = 4 → Pc = P) (hv : gh_lv Pc) (hcp : gh_E c Pc p) (hq : gh_E f p q) : gh_E (gh_al (gh_vw c f)) P q := by
  by_cases f5 : f = 5
  · subst f5; exact Or.inl (by simp [gh_vw, gh_al])
  have hf' : f < 5 := by omega
  have three : gh_lv p → f = 3 → q = gh_F := by
    intro hp h3; subst h3
    rcases gh_E_lv hp hf' hq with ⟨h, _⟩ | ⟨h, _⟩ | ⟨h, _⟩ | ⟨_, h⟩ | ⟨h, _⟩
    · omega
    · omega
    · omega
    · exact h
    · omega
  rcases gh_E_lv hv hc hcp with ⟨rfl, i, rfl⟩ | ⟨rfl, i, rfl⟩ | ⟨rfl, rfl⟩ | ⟨rfl, rfl⟩ | ⟨rfl, h⟩
  · by_cases f3 : f = 3
    · rw [three (gh_lv_cons (by simp)) f3]; subst f3; exact gh_E_F hP (by simp [gh_vw, gh_al])
    · refine Or.inl ?_
      by_cases f0 : f = 0 <;> simp [gh_vw, gh_al, f5, f3, f0]
  · have e := hPc (by omega); subst e
    by_cases f3 : f = 3
    · rw [three (gh_lv_cons (by simp)) f3]; subst f3; exact gh_E_F hP (by simp [gh_vw, gh_al])
    · by_cases f0 : f = 0
      · subst f0; exact Or.inl (by simp [gh_vw, gh_al])
      · have : gh_al (gh_vw 1 f) = 4 := by simp [gh_vw, gh_al, f5, f3, f0]
        rw [this]; exact gh_view_T (q := [(2, i)]) hP (gh_T_cons.mpr ⟨rfl, gh_T_nil⟩) hf' f0 hq
  · have e := hPc (by omega); subst e
    by_cases f3 : f = 3
    · rw [three hP f3]; subst f3; exact gh_E_F hP (by simp [gh_vw, gh_al])
    · by_cases f0 : f = 0
      · subst f0; exact Or.inl (by simp [gh_vw, gh_al])
      · by_cases f2 : f = 2
        · subst f2
          have : gh_al (gh_vw 2 2) = 2 := by simp [gh_vw, gh_al]
          rw [this]; exact hq
        · have : gh_al (gh_vw 2 f) = 4 := by
            rcases (show f = 1 ∨ f = 4 by omega) with rfl | rfl <;> simp [gh_vw, gh_al]
          rw [this]; exact gh_view_T (q := []) hP gh_T_nil hf' f0 hq
  · have hF : q = gh_F := by
      rcases hq with h | h | ⟨_, h⟩ | ⟨h, _⟩
      · omega
      · cases h
      · exact h
      · exact absurd rfl h.1
    rw [hF]; refine gh_E_F hP ?_
    by_cases f3 : f = 3 <;> simp [gh_vw, gh_al, f5, f3]
  · have e := hPc (by omega); subst e
    by_cases f0 : f = 0
    · subst f0; exact Or.inl (by simp [gh_vw, gh_al])
    rcases h with rfl | ⟨r, hr, rfl⟩
    · have hF : q = gh_F := by
        rcases hq with h | h | ⟨_, h⟩ | ⟨h, _⟩
        · omega
        · cases h
        · exact h
        · exact absurd rfl h.1
      rw [hF]; refine gh_E_F hP ?_
      by_cases f3 : f = 3 <;> simp [gh_vw, gh_al, f5, f3, f0]
    · by_cases f3 : f = 3
      · rw [three (gh_lv_app hr hP) f3]; subst f3; exact gh_E_F hP (by simp [gh_vw, gh_al])
      · have : gh_al (gh_vw 4 f) = 4 := by simp [gh_vw, gh_al, f5, f3, f0]
        rw [this]; exact gh_view_T hP hr hf' f0 hq
/-- what PUT stores -/
theorem gh_store {c cz f : Nat} {Pc Pz P p r : gh_P} (hc : c < 3) (hz : cz < 6) (hP : gh_lv P) (hvc : gh_lv Pc) (hvz : gh_lv Pz) (hPc : c = 1 ∨ c = 2 → Pc = P) (hPz : cz = 1 ∨ cz = 2 ∨ cz = 4 → Pz = P) (h : gh_E c Pc p) (hr : gh_E cz Pz r) (hsa : gh_sa (gh_al cz) c) (hsu : gh_su (gh_al cz) f) : 2 ≤ f ∧ gh_E f p r := by
  have hpv : gh_lv p := by
    rcases gh_E_lv hvc (by omega) h with ⟨_, i, rfl⟩ | ⟨_, i, rfl⟩ | ⟨_, rfl⟩ | ⟨h, _⟩ | ⟨h, _⟩
    · exact gh_lv_cons (by simp)
    · exact gh_lv_cons (by simp)
    · exact hvc
    · omega
    · omega
  have two : c = 2 → p = P := by
    intro e; subst e
    rcases gh_E_lv hvc (by omega) h with ⟨h, _⟩ | ⟨h, _⟩ | ⟨_, rfl⟩ | ⟨h, _⟩ | ⟨h, _⟩
    · omega
    · omega
    · exact hPc (by omega)
    · omega
    · omega
  rcases (show cz = 0 ∨ cz = 1 ∨ cz = 2 ∨ cz = 3 ∨ cz = 4 ∨ cz = 5 by omega) with e | e | e | e | e | e
  · subst e; have : gh_al 0 = 5 := rfl
    rw [this] at hsu; unfold gh_su at hsu
    have : f = 5 := by omega
    exact ⟨by omega, Or.inl (by omega)⟩
  · have ez := hPz (by omega); subst ez
    have : gh_al cz = 4 := by subst e; rfl
    rw [this] at hsu hsa; unfold gh_su at hsu; unfold gh_sa at hsa
    have e2 := two (by omega); subst e2
    rcases (show f = 4 ∨ f = 5 by omega) with rfl | rfl
    · subst e
      exact ⟨by decide, gh_view_T (f := 1) (q := []) hP gh_T_nil (by decide) (by decide) hr⟩
    · exact ⟨by decide, Or.inl (by decide)⟩
  · have ez := hPz (by omega); subst ez
    have : gh_al cz = 2 := by subst e; rfl
    rw [this] at hsu hsa; unfold gh_su at hsu; unfold gh_sa at hsa
    have e2 := two (by omega); subst e2; subst e
    rcases (show f = 2 ∨ f = 4 ∨ f = 5 by omega) with rfl | rfl | rfl
    · exact ⟨by decide, hr⟩
    · exact ⟨by decide, gh_view_T (f := 2) (q := []) hP gh_T_nil (by decide) (by decide) hr⟩
    · exact ⟨by decide, Or.inl (by decide)⟩
  · have : gh_al cz = 3 := by subst e; rfl
    rw [this] at hsu; unfold gh_su at hsu; subst e
    have hF : r = gh_F := by
      rcases gh_E_lv hvz (by decide) hr with ⟨h, _⟩ | ⟨h, _⟩ | ⟨h, _⟩ | ⟨_, h⟩ | ⟨h, _⟩
      · omega
      · omega
      · omega
      · exact h
      · omega
    rw [hF]
    exact ⟨by omega, gh_E_F hpv (by omega)⟩
  · have ez := hPz (by omega); subst ez
    have : gh_al cz = 4 := by subst e; rfl
    rw [this] at hsu hsa; unfold gh_su at hsu; unfold gh_sa at hsa
    have e2 := two (by omega); subst e2; subst e
    rcases (show f = 4 ∨ f = 5 by omega) with rfl | rfl
    · exact ⟨by decide, hr⟩
    · exact ⟨by decide, Or.inl (by decide)⟩
  · have : gh_al cz = 5 := by subst e; rfl
    rw [this] at hsu; unfold gh_su at hsu
    have : f = 5 := by omega
    exact ⟨by omega, Or.inl (by omega)⟩
theorem gh_tr_z {c cz f : Nat} {Pc Pz P p : gh_P} (hc : c < 3) (hf : f < 6) (hvc : gh_lv Pc) (hPc : c = 1 ∨ c = 2 → Pc = P) (hPz : cz = 1 ∨ cz = 2 ∨ cz = 4 → Pz = P) (h : gh_E c Pc p) (hsa : gh_sa cz c) (hsu : gh_su cz f) : gh_tr cz f Pz p := by
  by_cases f5 : f = 5
  · exact Or.inl f5
  unfold gh_sa at hsa; unfold gh_su at hsu
  have two : c = 2 → p = P := by
    intro e; subst e
    rcases gh_E_lv hvc (by omega) h with ⟨h, _⟩ | ⟨h, _⟩ | ⟨_, rfl⟩ | ⟨h, _⟩ | ⟨h, _⟩
    · omega
    · omega
    · exact hPc (by omega)
    · omega
    · omega
  have one : c = 1 → ∃ i, p = (2, i) :: P := by
    intro e; subst e
    rcases gh_E_lv hvc (by omega) h with ⟨h, _⟩ | ⟨_, i, rfl⟩ | ⟨h, _⟩ | ⟨h, _⟩ | ⟨h, _⟩
    · omega
    · exact ⟨i, by rw [hPc (by omega)]⟩
    · omega
    · omega
    · omega
  rcases (show cz = 0 ∨ cz = 1 ∨ cz = 2 ∨ cz = 3 ∨ cz = 4 ∨ cz = 5 by omega) with e | e | e | e | e | e
  · exact Or.inr (Or.inl ⟨e, by omega⟩)
  · have ez := hPz (by omega)
    rcases (show f = 1 ∨ f = 2 ∨ f = 3 ∨ f = 4 by omega) with h' | h' | h' | h'
    all_goals first
      | exact Or.inr (Or.inr (Or.inr (Or.inl ⟨e, by omega⟩)))
      | (refine Or.inr (Or.inr (Or.inl ⟨e, by omega, ?_⟩))
         rcases (show c = 2 ∨ c = 1 by omega) with h2 | h1
         · exact ⟨[], gh_T_nil, by rw [two h2, ez]; rfl⟩
         · obtain ⟨i, hi⟩ := one h1
           exact ⟨[(2, i)], gh_T_cons.mpr ⟨rfl, gh_T_nil⟩, by rw [hi, ez]; rfl⟩)
  · have ez := hPz (by omega)
    have e2 := two (by omega)
    rcases (show f = 2 ∨ f = 4 by omega) with h' | h'
    · exact Or.inr (Or.inr (Or.inr (Or.inr (Or.inl ⟨e, h', by rw [e2, ez]⟩))))
    · exact Or.inr (Or.inr (Or.inr (Or.inr (Or.inr (Or.inl ⟨e, h', [], gh_T_nil, by rw [e2, ez]; rfl⟩)))))
  · exact Or.inr (Or.inr (Or.inr (Or.inr (Or.inr (Or.inr (Or.inl ⟨e, by omega⟩))))))
  · have ez := hPz (by omega)
    have e2 := two (by omega)
    exact Or.inr (Or.inr (Or.inr (Or.inr (Or.inr (Or.inr (Or.inr ⟨e, by omega, [], gh_T_nil, by rw [e2, ez]; rfl⟩))))))
  · omega
theorem gh_tr_w {c f : Nat} {Pc P p : gh_P} (hc : c < 3) (hf : f < 6) (hvc : gh_lv Pc) (hPc : c = 1 ∨ c = 2 → Pc = P) (h : gh_E c Pc p) : gh_tr f (gh_dw c f) p P := by
  rcases (show c = 0 ∨ c = 1 ∨ c = 2 by omega) with e | e | e
  · subst e
    rcases (show f = 0 ∨ f = 1 ∨ f = 2 ∨ f = 3 ∨ f = 4 ∨ f = 5 by omega) with rfl | rfl | rfl | rfl | rfl | rfl
    · exact Or.inr (Or.inl ⟨rfl, by simp [gh_dw]⟩)
    · exact Or.inr (Or.inr (Or.inr (Or.inl ⟨rfl, by simp [gh_dw]⟩)))
    · exact Or.inl (by simp [gh_dw])
    · exact Or.inr (Or.inr (Or.inr (Or.inr (Or.inr (Or.inr (Or.inl ⟨rfl, by simp [gh_dw]⟩))))))
    · exact Or.inl (by simp [gh_dw])
    · exact Or.inl (by simp [gh_dw])
  · subst e
    have ep := hPc (by omega); subst ep
    obtain ⟨i, hi⟩ : ∃ i, p = (2, i) :: Pc := by
      rcases gh_E_lv hvc (by omega) h with ⟨h, _⟩ | ⟨_, i, rfl⟩ | ⟨h, _⟩ | ⟨h, _⟩ | ⟨h, _⟩
      · omega
      · exact ⟨i, rfl⟩
      · omega
      · omega
      · omega
    rcases (show f = 0 ∨ f = 1 ∨ f = 2 ∨ f = 3 ∨ f = 4 ∨ f = 5 by omega) with rfl | rfl | rfl | rfl | rfl | rfl
    · exact Or.inr (Or.inl ⟨rfl, by simp [gh_dw]⟩)
    · exact Or.inr (Or.inr (Or.inr (Or.inl ⟨rfl, by simp [gh_dw]⟩)))
    · exact Or.inr (Or.inr (Or.inr (Or.inr (Or.inr (Or.inl ⟨rfl, by simp [gh_dw], [(2, i)], gh_T_cons.mpr ⟨rfl, gh_T_nil⟩, hi⟩)))))
    · exact Or.inr (Or.inr (Or.inr (Or.inr (Or.inr (Or.inr (Or.inl ⟨rfl, by simp [gh_dw]⟩))))))
    · exact Or.inr (Or.inr (Or.inr (Or.inr (Or.inr (Or.inr (Or.inr ⟨rfl, by simp [gh_dw], [(2, i)], gh_T_cons.mpr ⟨rfl, gh_T_nil⟩, hi⟩))))))
    · exact Or.inl (by simp [gh_dw])
  · subst e
    have ep := hPc (by omega); subst ep
    have hi : p = Pc := by
      rcases gh_E_lv hvc (by omega) h with ⟨h, _⟩ | ⟨h, _⟩ | ⟨_, h⟩ | ⟨h, _⟩ | ⟨h, _⟩
      · omega
      · omega
      · exact h
      · omega
      · omega
    have hd : gh_dw 2 f = f := by simp [gh_dw]
    rw [hd, hi]
    rcases (show f = 0 ∨ f = 1 ∨ f = 2 ∨ f = 3 ∨ f = 4 ∨ f = 5 by omega) with rfl | rfl | rfl | rfl | rfl | rfl
    · exact Or.inr (Or.inl ⟨rfl, by decide⟩)
    · exact Or.inr (Or.inr (Or.inl ⟨rfl, Or.inl rfl, [], gh_T_nil, rfl⟩))
    · exact Or.inr (Or.inr (Or.inr (Or.inr (Or.inl ⟨rfl, rfl, rfl⟩))))
    · exact Or.inr (Or.inr (Or.inr (Or.inr (Or.inr (Or.inr (Or.inl ⟨rfl, Or.inl rfl⟩))))))
    · exact Or.inr (Or.inr (Or.inr (Or.inr (Or.inr (Or.inr (Or.inr ⟨rfl, rfl, [], gh_T_nil, rfl⟩))))))
    · exact Or.inl rfl
