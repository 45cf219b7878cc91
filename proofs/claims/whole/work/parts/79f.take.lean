/-! Closures; taking a call, collecting, freeing -/
/-- o is met from t, by fields that are not TAG -/
def gh_dp (pl : Nat → Nat → Option Nat) (t o : Nat) : Prop := ∀ S : Nat → Prop, S t → (∀ p k u, S p → p < 16 → k < 5 → pl p k = some u → S u) → S o
/-- o is in the closure of t by capability c -/
def gh_cl (pl : Nat → Nat → Option Nat) (t c o : Nat) : Prop := o = t ∨ (c < 5 ∧ ∃ p k, gh_dp pl t p ∧ p < 16 ∧ pl p k = some o)
section
variable {a b : Nat} {K K' : Nat → Nat → Prop} {ex ex' : Nat → Prop} {pl pl' : Nat → Nat → Option Nat} {cb cb' : Nat → Nat → Nat} {cx cx' : Nat → Nat → gh_P} {g : Nat → gh_P} {V : Nat → Nat → Prop} {P : gh_P}
theorem gh_dp_refl (t : Nat) : gh_dp pl t t := fun _ h _ => h
theorem gh_dp_step {t p k u : Nat} (h : gh_dp pl t p) (hp : p < 16) (hk : k < 5) (hu : pl p k = some u) : gh_dp pl t u := fun S h0 hs => hs p k u (h S h0 hs) hp hk hu
theorem gh_dp_ind {t o : Nat} (Q : Nat → Prop) (h0 : Q t) (hs : ∀ p k u, gh_dp pl t p → Q p → p < 16 → k < 5 → pl p k = some u → Q u) (h : gh_dp pl t o) : Q o :=
  (h (fun x => gh_dp pl t x ∧ Q x) ⟨gh_dp_refl t, h0⟩ (fun p k u hp h16 hk hu => ⟨gh_dp_step hp.1 h16 hk hu, hs p k u hp.1 hp.2 h16 hk hu⟩)).2
theorem gh_e_up {c : Nat} {P p : gh_P} (h : gh_e c P p) : p = gh_F ∨ P <:+ p := by
  rcases h with ⟨_, i, rfl⟩ | ⟨_, i, rfl⟩ | ⟨_, rfl⟩ | ⟨_, h⟩ | ⟨_, h⟩
  · exact Or.inr (List.suffix_cons _ _)
  · exact Or.inr (List.suffix_cons _ _)
  · exact Or.inr (List.suffix_refl _)
  · exact Or.inl h
  · rcases h with h | ⟨q, _, h⟩
    · exact Or.inl h
    · rw [h]; exact Or.inr (List.suffix_append _ _)
theorem gh_ce16 {h k : Nat} (hh : h < 16) : gh_ce g cx h k = g h := if_pos hh
theorem gh_ca16 {h k : Nat} (hh : h < 20) : gh_ca cb h k = k := if_pos hh
/-- nobody runs: whoever comes next -/
theorem gh_J_rest {a' b' : Nat} (H : gh_J a b K ex pl cb cx g V) (hr : ∀ h k, 20 ≤ h → h ≠ 21 → pl h k = none) (h21 : ∀ k, cx 21 k = []) (hb : ∀ t, t < 16 → ∀ l, l ∈ g t → l.2 ≠ b') : gh_J a' b' K ex pl cb (gh_c0 a') g V := by
  have ceq : ∀ h k t, pl h k = some t → gh_ce g (gh_c0 a') h k = gh_ce g cx h k := by
    intro h k t ht
    unfold gh_ce
    by_cases e : h < 16
    · rw [if_pos e, if_pos e]
    · rw [if_neg e, if_neg e]
      by_cases e' : h < 20
      · rw [if_pos e', if_pos e']
      · rw [if_neg e', if_neg e']
        by_cases e2 : h = 21
        · subst e2; rw [h21]; rfl
        · rw [hr h k (by omega) e2] at ht; cases ht
  refine ⟨gh_I_mono H.1 (fun h k t ht => ⟨ht, rfl, ceq h k t ht⟩), H.2.1, ⟨H.2.2.1.1, fun b'' h k t hw ht => ?_⟩, H.2.2.2.1, fun h k t ht hc hv e => ?_, gh_c0_x'⟩
  · rcases hw with h' | ⟨_, h1, h2⟩
    · exact H.2.2.1.2 b'' h k t (Or.inl h') ht
    · rw [hr h k h1 h2] at ht; cases ht
  · rw [ceq h k t ht] at hv
    obtain ⟨m, _, hm⟩ := gh_e_lbl hc hv (H.1.1 h k t ht)
    have h16 := (gh_J_ex H ht (by omega) hv.2).1
    rw [hm] at e
    have e' : m.2 = b' := by injection e
    exact hb t h16 m (by rw [hm]; exact List.mem_cons_self) e'
/-- the messages get other places -/
theorem gh_J_ren (s : Nat → Nat) (H : gh_J a b K ex pl cb cx g V) (hs : ∀ i j, s i = s j → i = j) (h21 : ∀ k, cx 21 k = []) (hp : ∀ h k, h ≠ 21 → pl' h k = pl h k) (hc : ∀ h k, h ≠ 21 → cb' h k = cb h k) (hm : ∀ i t, pl' 21 i = some t → pl 21 (s i) = some t ∧ cb' 21 i = cb 21 (s i)) : gh_J a b K ex pl' cb' cx g V := by
  have key : ∀ h k t, pl' h k = some t → ∃ k', pl h k' = some t ∧ gh_ca cb' h k = gh_ca cb h k' ∧ gh_ce g cx h k = gh_ce g cx h k' ∧ (h ≠ 21 → k' = k) ∧ (h = 21 → k' = s k) := by
    intro h k t ht
    by_cases e : h = 21
    · subst e
      obtain ⟨h1, h2⟩ := hm k t ht
      exact ⟨s k, h1, by rw [gh_ca21, gh_ca21, h2], by rw [gh_ce21, gh_ce21, h21, h21], fun h => absurd rfl h, fun _ => rfl⟩
    · rw [hp h k e] at ht
      exact ⟨k, ht, by unfold gh_ca; rw [hc h k e], rfl, fun _ => rfl, fun h => absurd h e⟩
  refine ⟨⟨fun h k t ht => ?_, fun h k t h' k' t' h1 h2 h3 h4 h5 h6 h7 => ?_⟩, H.2.1, ⟨fun b' o o16 hv => ⟨(H.2.2.1.1 b' o o16 hv).1, fun k t ht => ?_⟩, fun b' h k t hw ht => ?_⟩, H.2.2.2.1, fun h k t ht hc' hv => ?_, H.2.2.2.2.2⟩
  · obtain ⟨k', q1, q2, q3, _, _⟩ := key h k t ht
    rw [q2, q3]; exact H.1.1 h k' t q1
  · obtain ⟨j, q1, q2, q3, q4, q5⟩ := key h k t h1
    obtain ⟨j', r1, r2, r3, r4, r5⟩ := key h' k' t' h2
    rw [q2] at h3; rw [r2] at h4; rw [q3] at h5; rw [r3] at h6
    obtain ⟨e1, e2⟩ := H.1.2 h j t h' j' t' q1 r1 h3 h4 h5 h6 h7
    refine ⟨e1, ?_⟩
    by_cases e : h = 21
    · rw [q5 e, r5 (by omega)] at e2; exact hs _ _ e2
    · rw [q4 e, r4 (by omega)] at e2; exact e2
  · rw [hp o k (by omega)] at ht; exact (H.2.2.1.1 b' o o16 hv).2 k t ht
  · have e : h ≠ 21 := by rintro rfl; exact gh_wh21 hw
    rw [hp h k e] at ht
    have := H.2.2.1.2 b' h k t hw ht
    unfold gh_ca at this ⊢; rw [hc h k e]; exact this
  · obtain ⟨j, q1, q2, q3, q4, q5⟩ := key h k t ht
    rw [q2] at hc'; rw [q3] at hv
    exact H.2.2.2.2.1 h j t q1 hc' hv
/-- a call is taken by a -/
theorem gh_st_take {m t c : Nat} (H : gh_J a b K ex pl cb (gh_c0 a) g V) (ht : pl 21 m = some t) (hc : cb 21 m = c) (hc3 : c = 0 ∨ c = 3 ∨ c = 5) (hK : ∀ o, gh_cl pl t c o → K a o) : ∃ g' V', gh_J a b K ex (gh_u (gh_u pl 21 m none) 20 0 (some t)) (gh_u cb 20 0 c) (gh_c0 a) g' V' := by
  classical
  have H' := gh_J_rm H 21 m
  have hE := H.1.1 21 m t ht
  rw [gh_ca21, gh_ce21, hc] at hE
  have e21 : gh_c0 a 21 m = [] := rfl
  rw [e21] at hE
  have cb2 : ∀ x y, ¬ (x = 20 ∧ y = 0) → gh_ca (gh_u cb 20 0 c) x y = gh_ca cb x y := by
    intro x y e; unfold gh_ca; rw [gh_u_n _ _ e]
  have cb3 : gh_ca (gh_u cb 20 0 c) 20 0 = c := by rw [gh_ca20, gh_u_s]
  have plo : ∀ o k, o < 16 → gh_u pl 21 m none o k = pl o k := fun o k h => gh_u_n _ _ (by omega)
  have hKt : K a t := hK t (Or.inl rfl)
  have setK : ∀ V' : Nat → Nat → Prop, (c < 5 → V' a t) → ∀ b', (20 < 16 ∧ V' b' 20 ∨ gh_wh a b' 20) → K b' t ∧ (c < 5 → V' b' t) := by
    rintro V' h1 b' (⟨h, _⟩ | h)
    · omega
    · rw [gh_wh20 h]; exact ⟨hKt, h1⟩
  have a0v : gh_lv [((0 : Nat), a)] := gh_ok_lv (gh_cel_ok (b := b) (Or.inl rfl)).1
  -- what the new view is
  have viewC : c < 5 → gh_C a K (gh_u pl 21 m none) (gh_ca cb) (fun b' o => V b' o ∨ (b' = a ∧ gh_dp pl t o)) := by
    intro c5
    refine ⟨fun b' o o16 hv => ?_, fun b' h k u hw hu => ?_⟩
    · rcases hv with hv | ⟨rfl, hd⟩
      · have := H'.2.2.1.1 b' o o16 hv
        exact ⟨this.1, fun k u hu => ⟨(this.2 k u hu).1, fun h5 => Or.inl ((this.2 k u hu).2 h5)⟩⟩
      · refine ⟨?_, fun k u hu => ?_⟩
        · refine hK o ?_
          refine gh_dp_ind (fun x => gh_cl pl t c x) (Or.inl rfl) (fun p k u hp _ h16 hk hu => Or.inr ⟨c5, p, k, hp, h16, hu⟩) hd
        · rw [plo o k o16] at hu
          exact ⟨hK u (Or.inr ⟨c5, o, k, hd, o16, hu⟩), fun h5 => Or.inr ⟨rfl, gh_dp_step hd o16 h5 hu⟩⟩
    · have := H'.2.2.1.2 b' h k u hw hu
      exact ⟨this.1, fun h5 => Or.inl (this.2 h5)⟩
  have edge : ∀ p k u, p < 16 → k < 5 → pl p k = some u → gh_E k (g p) (g u) := by
    intro p k u h16 _ hu
    have := H.1.1 p k u hu
    rw [gh_ca16 (by omega), gh_ce16 h16] at this; exact this
  rcases hc3 with rfl | rfl | rfl
  · -- ISO
    obtain ⟨n, hnb, hn⟩ := gh_fresh g b
    obtain ⟨l, hl, hp⟩ := gh_e_lbl (by decide) gh_nil_lv hE
    have hl1 : l.1 = 1 := by rcases hl with h | h <;> omega
    have hlb : l.2 ≠ b := by
      have := H.2.2.2.2.1 21 m t ht (by rw [gh_ca21]; omega) (by rw [gh_ce21, e21]; exact gh_nil_lv)
      rw [hp] at this; intro e; exact this (by rw [← e]; rfl)
    have hbd : ∀ x y u, gh_u pl 21 m none x y = some u → gh_ca cb x y < 2 → gh_lv (gh_ce g (gh_c0 a) x y) → g u ≠ [l] := by
      intro x y u hu hc' hv' e
      by_cases ex : x = 21 ∧ y = m
      · obtain ⟨rfl, rfl⟩ := ex; rw [gh_u_s] at hu; cases hu
      · rw [gh_u_n _ _ ex] at hu
        exact ex (H.1.2 x y u 21 m t hu ht hc' (by rw [gh_ca21]; omega) hv' (by rw [gh_ce21, e21]; exact gh_nil_lv) (by rw [e, hp]))
    have nsx : ∀ x y, ¬ x < 16 → ¬ [l] <:+ gh_ce g (gh_c0 a) x y := fun x y => (gh_ce_s (P0 := []) (E := []) (by omega) hlb H.2.2.2.2.2 x y).1
    have hin : ∀ x y u, gh_u pl 21 m none x y = some u → gh_ca cb x y < 5 → gh_lv (gh_ce g (gh_c0 a) x y) → ¬ [l] <:+ gh_ce g (gh_c0 a) x y → ¬ [l] <:+ g u := by
      intro x y u hu hc hD hs hs'
      rcases H'.1.1 x y u hu with h | h | ⟨h, _⟩ | ⟨hv, h⟩
      · omega
      · exact hD.2 h
      · exact hD.1 h
      · rcases gh_e_in (by omega) h hs hs' with ⟨h1, h2⟩ | ⟨_, h2, _⟩
        · exact hbd x y u hu h1 hv h2
        · omega
    have okl : gh_ok [l] := ⟨l, rfl, by omega⟩
    have dcell : ∀ u, gh_dp pl t u → g u = gh_F ∨ [l] <:+ g u := by
      intro u hu
      refine gh_dp_ind (fun x => g x = gh_F ∨ [l] <:+ g x) (Or.inr (by rw [hp]; exact List.suffix_refl _)) (fun p k u _ hq h16 hk hu => ?_) hu
      have := edge p k u h16 hk hu
      rcases hq with h | h
      · rw [h] at this
        rcases this with h | h | ⟨_, h⟩ | ⟨h, _⟩
        · omega
        · cases h
        · exact Or.inl h
        · exact absurd rfl h.1
      · have hv : gh_lv (g p) := by obtain ⟨q, hq⟩ := h; rw [← hq]; exact gh_ok_lv (gh_ok_app okl q)
        rcases gh_e_up (gh_E_lv hv hk this) with h' | h'
        · exact Or.inl h'
        · exact Or.inr (List.IsSuffix.trans h h')
    -- what lies in the island and isn't met dies
    have g1d : ∀ u, ([l] <:+ g u ∧ ¬ gh_dp pl t u) → (fun u => if [l] <:+ g u ∧ ¬ gh_dp pl t u then gh_D else g u) u = gh_D := fun u h => if_pos h
    have g1n : ∀ u, ¬ ([l] <:+ g u ∧ ¬ gh_dp pl t u) → (fun u => if [l] <:+ g u ∧ ¬ gh_dp pl t u then gh_D else g u) u = g u := fun u h => if_neg h
    generalize (fun u => if [l] <:+ g u ∧ ¬ gh_dp pl t u then gh_D else g u) = g1 at g1d g1n
    have g1F : ∀ u, g u = gh_F → g1 u = gh_F := by
      intro u h; rw [g1n u, h]; rintro ⟨hs, _⟩; rw [h] at hs; exact gh_sf_F (by omega) hs
    have g1s : ∀ u, [l] <:+ g1 u → gh_dp pl t u ∧ g1 u = g u := by
      intro u h
      by_cases e : [l] <:+ g u ∧ ¬ gh_dp pl t u
      · rw [g1d u e] at h; exact absurd h (gh_sf_D (by omega))
      · rw [g1n u e] at h
        exact ⟨Classical.not_not.mp (fun h' => e ⟨h, h'⟩), g1n u e⟩
    have stay : ∀ x y u, gh_u pl 21 m none x y = some u → gh_ca cb x y < 5 → gh_lv (gh_ce g1 (gh_c0 a) x y) → gh_ce g1 (gh_c0 a) x y = gh_ce g (gh_c0 a) x y ∧ g1 u = g u := by
      intro x y u hu hc hv
      by_cases h16 : x < 16
      · rw [gh_ce16 h16] at hv ⊢
        rw [gh_ce16 h16]
        by_cases e : [l] <:+ g x ∧ ¬ gh_dp pl t x
        · rw [g1d x e] at hv; exact absurd rfl hv.2
        · rw [g1n x e] at hv
          refine ⟨g1n x e, g1n u ?_⟩
          rintro ⟨hs, hd⟩
          by_cases hx : [l] <:+ g x
          · have hdx : gh_dp pl t x := Classical.not_not.mp (fun h' => e ⟨hx, h'⟩)
            rw [plo x y h16] at hu
            rw [gh_ca16 (by omega)] at hc
            exact hd (gh_dp_step hdx h16 hc hu)
          · exact hin x y u hu hc (by rw [gh_ce16 h16]; exact hv) (by rw [gh_ce16 h16]; exact hx) hs
      · have e : gh_ce g1 (gh_c0 a) x y = gh_ce g (gh_c0 a) x y := by unfold gh_ce; rw [if_neg h16, if_neg h16]
        rw [e] at hv ⊢
        exact ⟨rfl, g1n u (fun h => hin x y u hu hc hv (nsx x y h16) h.1)⟩
    have I1 : gh_I (gh_u pl 21 m none) (gh_ca cb) (gh_ce g1 (gh_c0 a)) g1 := by
      refine gh_I_die H'.1 (fun x y u hu => ?_)
      by_cases e : gh_ce g1 (gh_c0 a) x y = gh_D
      · exact Or.inl e
      · refine Or.inr ⟨?_, fun hc hv => ?_, fun h => g1F u h⟩
        · by_cases h16 : x < 16
          · rw [gh_ce16 h16] at e ⊢; rw [gh_ce16 h16]
            by_cases e' : [l] <:+ g x ∧ ¬ gh_dp pl t x
            · exact absurd (g1d x e') e
            · exact g1n x e'
          · unfold gh_ce; rw [if_neg h16, if_neg h16]
        · by_cases h16 : x < 16
          · refine (stay x y u hu hc ⟨fun h => ?_, e⟩).2
            rw [gh_ce16 h16] at h hv
            by_cases e' : [l] <:+ g x ∧ ¬ gh_dp pl t x
            · rw [g1d x e'] at h; cases h
            · rw [g1n x e'] at h; exact hv.1 h
          · refine (stay x y u hu hc ?_).2
            have e : gh_ce g1 (gh_c0 a) x y = gh_ce g (gh_c0 a) x y := by unfold gh_ce; rw [if_neg h16, if_neg h16]
            rw [e]; exact hv
    have okE : gh_ok [(1, n), (0, a)] := ⟨(0, a), rfl, by simp⟩
    have hbd1 : ∀ x y u, gh_u pl 21 m none x y = some u → gh_ca cb x y < 2 → gh_lv (gh_ce g1 (gh_c0 a) x y) → g1 u ≠ [l] := by
      intro x y u hu hc' hv'
      obtain ⟨e1, e2⟩ := stay x y u hu (by omega) hv'
      rw [e1] at hv'; rw [e2]; exact hbd x y u hu hc' hv'
    have I2 := gh_I_s (l := l) (P0 := []) (E := [(1, n), (0, a)]) I1 (by omega) okE hbd1 (fun h => by omega)
    have ceq : ∀ x y, gh_ce (fun u => gh_s [l] [(1, n), (0, a)] (g1 u)) (gh_c0 a) x y = gh_s [l] [(1, n), (0, a)] (gh_ce g1 (gh_c0 a) x y) := fun x y => (gh_ce_s (P0 := []) (E := [(1, n), (0, a)]) (by omega) hlb H.2.2.2.2.2 x y).2.1
    have lvb : ∀ p, gh_lv (gh_s [l] [(1, n), (0, a)] p) → gh_lv p := by
      intro p hh
      constructor
      · intro e; rw [e, gh_s_n (gh_sf_F (by omega))] at hh; exact hh.1 rfl
      · intro e; rw [e, gh_s_n (gh_sf_D (by omega))] at hh; exact hh.2 rfl
    have lasts : ∀ u, [l] <:+ g1 u → (gh_s [l] [(1, n), (0, a)] (g1 u)).getLast? = some (0, a) := by
      rintro u ⟨q, hq⟩
      rw [← hq, gh_s_y, gh_last_app (by simp)]; rfl
    have J1 : gh_J a b K ex (gh_u pl 21 m none) cb (gh_c0 a) (fun u => gh_s [l] [(1, n), (0, a)] (g1 u)) (fun b' o => V b' o ∨ (b' = a ∧ gh_dp pl t o)) := by
      refine ⟨gh_I_mono I2 (fun x y u hu => ⟨hu, rfl, ceq x y⟩), ⟨fun b' o ho => ?_, fun b' o ho => ?_⟩, viewC (by decide), fun o ho => H.2.2.2.1 o (fun e => ho ?_), fun x y u hu hc' hv' => ?_, gh_c0_x'⟩
      · by_cases hs : [l] <:+ g1 o
        · simp only [lasts o hs] at ho
          injection ho with ho; injection ho with _ ho
          exact Or.inr ⟨ho.symm, (g1s o hs).1⟩
        · simp only [gh_s_n hs] at ho
          by_cases e : [l] <:+ g o ∧ ¬ gh_dp pl t o
          · rw [g1d o e] at ho; simp [gh_D] at ho
          · rw [g1n o e] at ho; exact Or.inl (H.2.1.1 b' o ho)
      · show gh_s _ _ (g1 o) = _ ∨ (gh_s _ _ (g1 o)).getLast? = _
        rcases ho with ho | ⟨rfl, hd⟩
        · have nsf : ¬ [l] <:+ g o := by
            rintro ⟨q, hq⟩
            rcases H.2.1.2 b' o ho with h | h
            · rw [h] at hq; exact gh_sf_F (P0 := []) (l := l) (by omega) ⟨q, hq⟩
            · rw [← hq, gh_last_app (by simp)] at h
              have h' : l = (0, b') := by simpa using h
              rw [h'] at hl1; simp at hl1
          have e1 := g1n o (fun h => nsf h.1)
          rw [e1, gh_s_n nsf]; exact H.2.1.2 b' o ho
        · have e1 := g1n o (fun h => h.2 hd)
          rcases dcell o hd with h | h
          · left; rw [e1, h]; exact gh_s_n (gh_sf_F (by omega))
          · right; exact lasts o (by rw [e1]; exact h)
      · show gh_s _ _ (g1 o) = gh_D
        have : g1 o = gh_D := by
          rw [g1n o, e]; rintro ⟨hs, _⟩; rw [e] at hs; exact gh_sf_D (by omega) hs
        rw [this]; exact gh_s_n (gh_sf_D (by omega))
      · rw [ceq] at hv'
        have hv2 := lvb _ hv'
        obtain ⟨m', _, hm''⟩ := gh_e_lbl hc' hv2 (I1.1 x y u hu)
        have hne := hbd1 x y u hu hc' hv2
        obtain ⟨e1, e2⟩ := stay x y u hu (by omega) hv2
        rw [e1] at hv2
        have := H'.2.2.2.2.1 x y u hu hc' hv2
        rw [← e2] at this
        rw [hm''] at hne this
        show gh_n (gh_s _ _ (g1 u)) ≠ _
        rw [hm'', gh_s_cons hne]; exact this
    have hgt : gh_s [l] [(1, n), (0, a)] (g1 t) = [(1, n), (0, a)] := by
      rw [g1n t (fun h => h.2 (gh_dp_refl t)), hp]; exact gh_s_y _ _ []
    refine ⟨_, _, gh_J_set (t := t) (c := 0) (cb' := gh_u cb 20 0 0) J1 cb2 cb3 ?_ (fun _ => ⟨?_, fun x y u hu hc' hv' _ => ?_⟩) (setK (fun b' o => V b' o ∨ (b' = a ∧ gh_dp pl t o)) (fun _ => Or.inr ⟨rfl, gh_dp_refl t⟩))⟩
    · rw [gh_ce20]
      show gh_E 0 [(0, a)] (gh_s _ _ (g1 t))
      rw [hgt]; exact Or.inr (Or.inr (Or.inr ⟨a0v, Or.inl ⟨rfl, n, rfl⟩⟩))
    · show gh_n (gh_s _ _ (g1 t)) ≠ _
      rw [hgt]; intro e; injection e with e; exact hnb e
    · rw [ceq] at hv'
      have hv2 := lvb _ hv'
      obtain ⟨m', _, hm''⟩ := gh_e_lbl hc' hv2 (I1.1 x y u hu)
      have hne := hbd1 x y u hu hc' hv2
      obtain ⟨e1, e2⟩ := stay x y u hu (by omega) hv2
      have h16 := (gh_J_ex H' hu (by omega) (by rw [← e1]; exact hv2.2)).1
      rw [hm''] at hne
      show gh_n (gh_s _ _ (g1 u)) ≠ gh_n (gh_s _ _ (g1 t))
      rw [hgt, hm'', gh_s_cons hne]
      intro e
      have e' : m'.2 = n := by injection e
      exact hn u h16 m' (by rw [← e2, hm'']; exact List.mem_cons_self) e'
  · -- VAL
    have hF : g t = gh_F := by
      rcases gh_E_lv gh_nil_lv (by decide) hE with ⟨h, _⟩ | ⟨h, _⟩ | ⟨h, _⟩ | ⟨_, h⟩ | ⟨h, _⟩
      · omega
      · omega
      · omega
      · exact h
      · omega
    have dcell : ∀ u, gh_dp pl t u → g u = gh_F := by
      intro u hu
      refine gh_dp_ind (fun x => g x = gh_F) hF (fun p k u _ hq h16 hk hu => ?_) hu
      have := edge p k u h16 hk hu
      rw [hq] at this
      rcases this with h | h | ⟨_, h⟩ | ⟨h, _⟩
      · omega
      · cases h
      · exact h
      · exact absurd rfl h.1
    have J1 : gh_J a b K ex (gh_u pl 21 m none) cb (gh_c0 a) g (fun b' o => V b' o ∨ (b' = a ∧ gh_dp pl t o)) := by
      refine ⟨H'.1, ⟨fun b' o ho => Or.inl (H.2.1.1 b' o ho), fun b' o ho => ?_⟩, viewC (by decide), H'.2.2.2.1, H'.2.2.2.2.1, H'.2.2.2.2.2⟩
      rcases ho with ho | ⟨_, hd⟩
      · exact H.2.1.2 b' o ho
      · exact Or.inl (dcell o hd)
    refine ⟨_, _, gh_J_set (t := t) (c := 3) (cb' := gh_u cb 20 0 3) J1 cb2 cb3 ?_ (fun h => by omega) (setK (fun b' o => V b' o ∨ (b' = a ∧ gh_dp pl t o)) (fun _ => Or.inr ⟨rfl, gh_dp_refl t⟩))⟩
    rw [gh_ce20, hF]; exact gh_E_F a0v (by decide)
  · -- TAG
    exact ⟨_, _, gh_J_set (t := t) (c := 5) (cb' := gh_u cb 20 0 5) H' cb2 cb3 (Or.inl (by decide)) (fun h => by omega) (setK _ (fun h => by omega))⟩
end
