/-! Places: (o, k) field k of object o, below 16; (16 + a, k) field k of actor a; (20, x) local x; (21, m) what message m has; (22, ..) hands -/
def gh_u {α : Type} (f : Nat → Nat → α) (h k : Nat) (v : α) : Nat → Nat → α := fun h' k' => if h' = h ∧ k' = k then v else f h' k'
theorem gh_u_s {α : Type} (f : Nat → Nat → α) (h k : Nat) (v : α) : gh_u f h k v h k = v := if_pos ⟨rfl, rfl⟩
theorem gh_u_n {α : Type} (f : Nat → Nat → α) {h k h' k' : Nat} (v : α) (hn : ¬ (h' = h ∧ k' = k)) : gh_u f h k v h' k' = f h' k' := if_neg hn
def gh_ca (cb : Nat → Nat → Nat) : Nat → Nat → Nat := fun h k => if h < 20 then k else cb h k
def gh_ce (g : Nat → gh_P) (cx : Nat → Nat → gh_P) : Nat → Nat → gh_P := fun h k => if h < 16 then g h else if h < 20 then [(0, h - 16)] else cx h k
def gh_I (pl : Nat → Nat → Option Nat) (ca : Nat → Nat → Nat) (ce : Nat → Nat → gh_P) (g : Nat → gh_P) : Prop :=
  (∀ h k t, pl h k = some t → gh_E (ca h k) (ce h k) (g t)) ∧
  ∀ h k t h' k' t', pl h k = some t → pl h' k' = some t' → ca h k < 2 → ca h' k' < 2 → gh_lv (ce h k) → gh_lv (ce h' k') → gh_n (g t) = gh_n (g t') → h = h' ∧ k = k'
theorem gh_I_mono {pl pl' : Nat → Nat → Option Nat} {ca ca' : Nat → Nat → Nat} {ce ce' : Nat → Nat → gh_P} {g : Nat → gh_P} (H : gh_I pl ca ce g) (h : ∀ h k t, pl' h k = some t → pl h k = some t ∧ ca' h k = ca h k ∧ ce' h k = ce h k) : gh_I pl' ca' ce' g := by
  refine ⟨fun x k t ht => ?_, fun x k t x' k' t' h1 h2 h3 h4 h5 h6 h7 => ?_⟩
  · obtain ⟨a, b, c⟩ := h _ _ _ ht
    rw [b, c]; exact H.1 _ _ _ a
  · obtain ⟨a1, b1, c1⟩ := h _ _ _ h1
    obtain ⟨a2, b2, c2⟩ := h _ _ _ h2
    rw [b1] at h3; rw [b2] at h4; rw [c1] at h5; rw [c2] at h6
    exact H.2 _ _ _ _ _ _ a1 a2 h3 h4 h5 h6 h7
theorem gh_e_lbl {c : Nat} {P p : gh_P} (hc : c < 2) (hv : gh_lv P) (h : gh_E c P p) : ∃ l : Nat × Nat, (l.1 = 1 ∧ c = 0 ∨ l.1 = 2 ∧ c = 1) ∧ p = l :: P := by
  rcases h with h | rfl | ⟨rfl, rfl⟩ | ⟨_, h⟩
  · omega
  · exact absurd rfl hv.2
  · exact absurd rfl hv.1
  · rcases h with ⟨rfl, i, rfl⟩ | ⟨rfl, i, rfl⟩ | ⟨rfl, rfl⟩ | ⟨rfl, rfl⟩ | ⟨rfl, h⟩
    · exact ⟨(1, i), Or.inl ⟨rfl, rfl⟩, rfl⟩
    · exact ⟨(2, i), Or.inr ⟨rfl, rfl⟩, rfl⟩
    · omega
    · omega
    · omega
theorem gh_I_s {pl : Nat → Nat → Option Nat} {ca : Nat → Nat → Nat} {ce : Nat → Nat → gh_P} {g : Nat → gh_P} {l : Nat × Nat} {P0 E : gh_P} (H : gh_I pl ca ce g) (hl : l.1 < 3) (hE : gh_ok E) (hb : ∀ h k t, pl h k = some t → ca h k < 2 → gh_lv (ce h k) → g t ≠ l :: P0) (hT : l.1 = 2 → ∃ q, gh_T q ∧ E = q ++ P0) : gh_I pl ca (fun h k => gh_s (l :: P0) E (ce h k)) (fun t => gh_s (l :: P0) E (g t)) := by
  have key : ∀ P, gh_lv (gh_s (l :: P0) E P) → gh_lv P := by
    intro P h
    constructor
    · rintro rfl; rw [gh_s_n (gh_sf_F hl)] at h; exact h.1 rfl
    · rintro rfl; rw [gh_s_n (gh_sf_D hl)] at h; exact h.2 rfl
  have hd : ∀ h k t, pl h k = some t → ca h k < 2 → gh_lv (ce h k) → gh_n (gh_s (l :: P0) E (g t)) = gh_n (g t) := by
    intro h k t ht hc hv
    obtain ⟨m, _, hm⟩ := gh_e_lbl hc hv (H.1 h k t ht)
    have := hb h k t ht hc hv
    rw [hm] at this ⊢
    rw [gh_s_cons this]; rfl
  refine ⟨fun h k t ht => gh_E_s hl hE (H.1 h k t ht) (hb h k t ht) hT, fun h k t h' k' t' h1 h2 h3 h4 h5 h6 h7 => ?_⟩
  have v1 := key _ h5
  have v2 := key _ h6
  refine H.2 h k t h' k' t' h1 h2 h3 h4 v1 v2 ?_
  rw [← hd h k t h1 h3 v1, ← hd h' k' t' h2 h4 v2]; exact h7
theorem gh_I_z {pl : Nat → Nat → Option Nat} {ca : Nat → Nat → Nat} {ce : Nat → Nat → gh_P} {g : Nat → gh_P} {l : Nat × Nat} {P0 : gh_P} (H : gh_I pl ca ce g) (hl : l.1 < 3) (hb : ∀ h k t, pl h k = some t → ca h k < 2 → gh_lv (ce h k) → g t ≠ l :: P0) : gh_I pl ca (fun h k => gh_z (l :: P0) (ce h k)) (fun t => gh_z (l :: P0) (g t)) := by
  have key : ∀ P, gh_lv (gh_z (l :: P0) P) → gh_lv P ∧ ¬ (l :: P0) <:+ P := by
    intro P h
    by_cases hs : (l :: P0) <:+ P
    · rw [gh_z_y hs] at h; exact absurd rfl h.1
    · rw [gh_z_n hs] at h; exact ⟨h, hs⟩
  have hd : ∀ h k t, pl h k = some t → ca h k < 2 → gh_lv (ce h k) → ¬ (l :: P0) <:+ ce h k → gh_z (l :: P0) (g t) = g t := by
    intro h k t ht hc hv hs
    obtain ⟨m, _, hm⟩ := gh_e_lbl hc hv (H.1 h k t ht)
    have := hb h k t ht hc hv
    rw [hm] at this ⊢
    refine gh_z_n (fun h' => ?_)
    rcases gh_sf_cons.mp h' with h' | h'
    · exact this h'.symm
    · exact hs h'
  refine ⟨fun h k t ht => gh_E_z hl (H.1 h k t ht) (hb h k t ht), fun h k t h' k' t' h1 h2 h3 h4 h5 h6 h7 => ?_⟩
  have v1 := key _ h5
  have v2 := key _ h6
  refine H.2 h k t h' k' t' h1 h2 h3 h4 v1.1 v2.1 ?_
  simp only [hd h k t h1 h3 v1.1 v1.2, hd h' k' t' h2 h4 v2.1 v2.2] at h7; exact h7
theorem gh_I_set {pl : Nat → Nat → Option Nat} {ca : Nat → Nat → Nat} {ce : Nat → Nat → gh_P} {g : Nat → gh_P} {h k t c : Nat} (H : gh_I pl ca ce g) (hE : gh_E c (ce h k) (g t)) (hU : c < 2 → ∀ h' k' t', pl h' k' = some t' → ca h' k' < 2 → gh_lv (ce h' k') → ¬ (h' = h ∧ k' = k) → gh_n (g t') ≠ gh_n (g t)) : gh_I (gh_u pl h k (some t)) (gh_u ca h k c) ce g := by
  refine ⟨fun x y u hu => ?_, fun x y u x' y' u' h1 h2 h3 h4 h5 h6 h7 => ?_⟩
  · by_cases e : x = h ∧ y = k
    · obtain ⟨rfl, rfl⟩ := e
      rw [gh_u_s] at hu ⊢; injection hu with hu; subst hu; exact hE
    · rw [gh_u_n _ _ e] at hu ⊢; exact H.1 _ _ _ hu
  · by_cases e : x = h ∧ y = k
    · obtain ⟨rfl, rfl⟩ := e
      by_cases e' : x' = x ∧ y' = y
      · exact ⟨e'.1.symm, e'.2.symm⟩
      · rw [gh_u_s] at h1 h3; injection h1 with h1; subst h1
        rw [gh_u_n _ _ e'] at h2 h4
        exact absurd h7.symm (hU h3 _ _ _ h2 h4 h6 e')
    · rw [gh_u_n _ _ e] at h1 h3
      by_cases e' : x' = h ∧ y' = k
      · obtain ⟨rfl, rfl⟩ := e'
        rw [gh_u_s] at h2 h4; injection h2 with h2; subst h2
        exact absurd h7 (hU h4 _ _ _ h1 h3 h5 e)
      · rw [gh_u_n _ _ e'] at h2 h4
        exact H.2 _ _ _ _ _ _ h1 h2 h3 h4 h5 h6 h7
/-- some objects die: no living place that stays holds one of them by more than TAG -/
theorem gh_I_die {pl : Nat → Nat → Option Nat} {ca : Nat → Nat → Nat} {ce ce' : Nat → Nat → gh_P} {g g' : Nat → gh_P} (H : gh_I pl ca ce g) (hc : ∀ h k t, pl h k = some t → ce' h k = gh_D ∨ (ce' h k = ce h k ∧ (ca h k < 5 → gh_lv (ce h k) → g' t = g t) ∧ (g t = gh_F → g' t = gh_F))) : gh_I pl ca ce' g' := by
  refine ⟨fun x y u hu => ?_, fun x y u x' y' u' h1 h2 h3 h4 h5 h6 h7 => ?_⟩
  · rcases hc x y u hu with e | ⟨e, e', e''⟩
    · rw [e]; exact Or.inr (Or.inl rfl)
    · rw [e]
      rcases H.1 x y u hu with h | h | ⟨h, h'⟩ | ⟨h, h'⟩
      · exact Or.inl h
      · exact Or.inr (Or.inl h)
      · exact Or.inr (Or.inr (Or.inl ⟨h, e'' h'⟩))
      · by_cases h5 : ca x y < 5
        · rw [e' h5 h]; exact Or.inr (Or.inr (Or.inr ⟨h, h'⟩))
        · exact Or.inl (by omega)
  · rcases hc x y u h1 with e | ⟨e, e', _⟩
    · rw [e] at h5; exact absurd rfl h5.2
    rcases hc x' y' u' h2 with d | ⟨d, d', _⟩
    · rw [d] at h6; exact absurd rfl h6.2
    rw [e] at h5; rw [d] at h6
    rw [e' (by omega) h5, d' (by omega) h6] at h7
    exact H.2 _ _ _ _ _ _ h1 h2 h3 h4 h5 h6 h7
/-- no living edge leads to a dead object -/
theorem gh_E_D {c : Nat} {P : gh_P} (h : gh_E c P gh_D) : 5 ≤ c ∨ P = gh_D := by
  rcases h with h | h | ⟨h, h'⟩ | ⟨hv, h⟩
  · exact Or.inl h
  · exact Or.inr h
  · cases h'
  · rcases h with ⟨rfl, i, h⟩ | ⟨rfl, i, h⟩ | ⟨rfl, h⟩ | ⟨rfl, h⟩ | ⟨rfl, h⟩
    · injection h with h _; injection h with h _; omega
    · injection h with h _; injection h with h _; omega
    · exact absurd h.symm hv.2
    · cases h
    · rcases h with h | ⟨q, hq, h⟩
      · cases h
      · cases q with
        | nil => exact absurd h.symm hv.2
        | cons m q =>
          have h2 := (gh_T_cons.mp hq).1
          injection h with h _
          rw [← h] at h2; cases h2
/-- a number that no object has goes into a cell -/
theorem gh_I_new {pl : Nat → Nat → Option Nat} {ca : Nat → Nat → Nat} {ce : Nat → Nat → gh_P} {g g' : Nat → gh_P} {o : Nat} (H : gh_I pl ca ce g) (ho : g o = gh_D) (hg : ∀ t, t ≠ o → g' t = g t) : gh_I pl ca ce g' := by
  have key : ∀ h k t, pl h k = some t → ca h k < 5 → ce h k ≠ gh_D → g' t = g t := by
    intro h k t ht hc hv
    refine hg t (fun e => ?_)
    have := H.1 h k t ht
    rw [e, ho] at this
    rcases gh_E_D this with h' | h'
    · omega
    · exact hv h'
  refine ⟨fun h k t ht => ?_, fun x y u x' y' u' h1 h2 h3 h4 h5 h6 h7 => ?_⟩
  · by_cases h5 : ca h k < 5
    · by_cases hv : ce h k = gh_D
      · exact Or.inr (Or.inl hv)
      · rw [key h k t ht h5 hv]; exact H.1 h k t ht
    · exact Or.inl (by omega)
  · rw [key _ _ _ h1 (by omega) h5.2, key _ _ _ h2 (by omega) h6.2] at h7
    exact H.2 _ _ _ _ _ _ h1 h2 h3 h4 h5 h6 h7
/-- what an actor sees -/
def gh_V (g : Nat → gh_P) (V : Nat → Nat → Prop) : Prop := (∀ b o, (g o).getLast? = some (0, b) → V b o) ∧ ∀ b o, V b o → g o = gh_F ∨ (g o).getLast? = some (0, b)
def gh_wh (a b h : Nat) : Prop := h = 16 + b ∧ b < 4 ∨ (b = a ∧ 20 ≤ h ∧ h ≠ 21)
def gh_C (a : Nat) (K : Nat → Nat → Prop) (pl : Nat → Nat → Option Nat) (ca : Nat → Nat → Nat) (V : Nat → Nat → Prop) : Prop :=
  (∀ b o, o < 16 → V b o → K b o ∧ ∀ k t, pl o k = some t → K b t ∧ (k < 5 → V b t)) ∧
  ∀ b h k t, gh_wh a b h → pl h k = some t → K b t ∧ (ca h k < 5 → V b t)
theorem gh_s_last {D E p : gh_P} (h : D.getLast? = E.getLast?) (hD : D ≠ []) (hE : E ≠ []) : (gh_s D E p).getLast? = p.getLast? := by
  by_cases hs : D <:+ p
  · obtain ⟨q, rfl⟩ := hs
    rw [gh_s_y, gh_last_app hE, gh_last_app hD, h]
  · rw [gh_s_n hs]
theorem gh_V_s {g : Nat → gh_P} {V : Nat → Nat → Prop} {l : Nat × Nat} {P0 E : gh_P} (H : gh_V g V) (hl : l.1 < 3) (h : (l :: P0).getLast? = E.getLast?) (hE : E ≠ []) : gh_V (fun t => gh_s (l :: P0) E (g t)) V := by
  refine ⟨fun b o ho => H.1 b o ?_, fun b o ho => ?_⟩
  · rw [← gh_s_last h (by simp) hE]; exact ho
  · rcases H.2 b o ho with h' | h'
    · left; show gh_s _ _ (g o) = _; rw [h', gh_s_n (gh_sf_F hl)]
    · right; show (gh_s _ _ (g o)).getLast? = _; rw [gh_s_last h (by simp) hE, h']
theorem gh_V_z {g : Nat → gh_P} {V : Nat → Nat → Prop} {D : gh_P} (H : gh_V g V) : gh_V (fun t => gh_z D (g t)) V := by
  refine ⟨fun b o ho => ?_, fun b o ho => ?_⟩
  · by_cases hs : D <:+ g o
    · simp only [gh_z_y hs] at ho; simp [gh_F] at ho
    · simp only [gh_z_n hs] at ho; exact H.1 b o ho
  · by_cases hs : D <:+ g o
    · left; exact gh_z_y hs
    · simp only [gh_z_n hs]; exact H.2 b o ho
theorem gh_C_mono {a : Nat} {K : Nat → Nat → Prop} {pl pl' : Nat → Nat → Option Nat} {ca ca' : Nat → Nat → Nat} {V : Nat → Nat → Prop} (H : gh_C a K pl ca V) (h : ∀ h k t, pl' h k = some t → pl h k = some t ∧ ca' h k = ca h k) : gh_C a K pl' ca' V := by
  refine ⟨fun b o ho hv => ⟨(H.1 b o ho hv).1, fun k t ht => (H.1 b o ho hv).2 k t (h _ _ _ ht).1⟩, fun b x k t hw ht => ?_⟩
  obtain ⟨e, e'⟩ := h _ _ _ ht
  rw [e']; exact H.2 b x k t hw e
theorem gh_C_set {a h k t c : Nat} {K : Nat → Nat → Prop} {pl : Nat → Nat → Option Nat} {ca : Nat → Nat → Nat} {V : Nat → Nat → Prop} (H : gh_C a K pl ca V) (hc : h < 16 → c = k) (hK : ∀ b, (h < 16 ∧ V b h ∨ gh_wh a b h) → K b t ∧ (c < 5 → V b t)) : gh_C a K (gh_u pl h k (some t)) (gh_u ca h k c) V := by
  refine ⟨fun b o ho hv => ⟨(H.1 b o ho hv).1, fun j u hu => ?_⟩, fun b x j u hw hu => ?_⟩
  · by_cases e : o = h ∧ j = k
    · obtain ⟨rfl, rfl⟩ := e
      rw [gh_u_s] at hu; injection hu with hu; subst hu
      have := hK b (Or.inl ⟨ho, hv⟩)
      rw [hc ho] at this; exact this
    · rw [gh_u_n _ _ e] at hu; exact (H.1 b o ho hv).2 j u hu
  · by_cases e : x = h ∧ j = k
    · obtain ⟨rfl, rfl⟩ := e
      rw [gh_u_s] at hu ⊢; injection hu with hu; subst hu
      exact hK b (Or.inr hw)
    · rw [gh_u_n _ _ e] at hu ⊢; exact H.2 b x j u hw hu
theorem gh_fresh (g : Nat → gh_P) (b : Nat) : ∃ n, n ≠ b ∧ ∀ t, t < 16 → ∀ l, l ∈ g t → l.2 ≠ n := by
  have one : ∀ p : gh_P, ∃ n, ∀ l, l ∈ p → l.2 < n := by
    intro p
    induction p with
    | nil => exact ⟨0, fun l h => by cases h⟩
    | cons m p ih =>
      obtain ⟨n, hn⟩ := ih
      refine ⟨n + m.2 + 1, fun l h => ?_⟩
      rcases List.mem_cons.mp h with rfl | h
      · omega
      · have := hn l h; omega
  have all : ∀ m, ∃ n, ∀ t, t < m → ∀ l, l ∈ g t → l.2 < n := by
    intro m
    induction m with
    | zero => exact ⟨0, fun t h => by omega⟩
    | succ m ih =>
      obtain ⟨n, hn⟩ := ih
      obtain ⟨n', hn'⟩ := one (g m)
      refine ⟨n + n', fun t h l hl => ?_⟩
      by_cases e : t = m
      · subst e; have := hn' l hl; omega
      · have := hn t (by omega) l hl; omega
  obtain ⟨n, hn⟩ := all 16
  exact ⟨n + b + 1, by omega, fun t h l hl => by have := hn t h l hl; omega⟩
