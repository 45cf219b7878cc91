/-! Closures of messages stay; the invariant while an actor runs -/
section
variable {a b : Nat} {K : Nat → Nat → Prop} {ex : Nat → Prop} {pl pl' : Nat → Nat → Option Nat} {cb : Nat → Nat → Nat} {cx : Nat → Nat → gh_P} {g : Nat → gh_P} {V : Nat → Nat → Prop}
theorem gh_dp_eq {t o : Nat} (h : ∀ p k, gh_dp pl t p → p < 16 → pl' p k = pl p k) : gh_dp pl' t o ↔ gh_dp pl t o := by
  constructor
  · intro hd
    exact gh_dp_ind (fun x => gh_dp pl t x) (gh_dp_refl t) (fun p k u _ hq h16 hk hu => gh_dp_step hq h16 hk (by rw [← h p k hq h16]; exact hu)) hd
  · intro hd
    exact gh_dp_ind (fun x => gh_dp pl' t x) (gh_dp_refl t) (fun p k u hp hq h16 hk hu => gh_dp_step hq h16 hk (by rw [h p k hp h16]; exact hu)) hd
theorem gh_cl_eq {t c o : Nat} (h : c < 5 → ∀ p k, gh_dp pl t p → p < 16 → pl' p k = pl p k) : gh_cl pl' t c o ↔ gh_cl pl t c o := by
  unfold gh_cl
  constructor
  · rintro (e | ⟨c5, p, k, h1, h2, h3⟩)
    · exact Or.inl e
    · have h1' := (gh_dp_eq (h c5)).mp h1
      exact Or.inr ⟨c5, p, k, h1', h2, by rw [← h c5 p k h1' h2]; exact h3⟩
  · rintro (e | ⟨c5, p, k, h1, h2, h3⟩)
    · exact Or.inl e
    · exact Or.inr ⟨c5, p, k, (gh_dp_eq (h c5)).mpr h1, h2, by rw [h c5 p k h1 h2]; exact h3⟩
/-- what a call has, and all that is met from there, lies in no actor's cell -/
theorem gh_msg {i t p : Nat} (H : gh_J a b K ex pl cb cx g V) (ht : pl 21 i = some t) (hx : cx 21 i = []) (hc : cb 21 i = 0 ∨ cb 21 i = 3) (hd : gh_dp pl t p) : (g p = gh_F ∨ ∃ l : Nat × Nat, l.1 = 1 ∧ [l] <:+ g p) ∧ ex p := by
  have hE := H.1.1 21 i t ht
  rw [gh_ca21, gh_ce21, hx] at hE
  have base : g t = gh_F ∨ ∃ l : Nat × Nat, l.1 = 1 ∧ [l] <:+ g t := by
    rcases hc with e | e
    · rw [e] at hE
      obtain ⟨l, hl, hp⟩ := gh_e_lbl (by decide) gh_nil_lv hE
      exact Or.inr ⟨l, by rcases hl with h | h <;> omega, by rw [hp]; exact List.suffix_refl _⟩
    · rw [e] at hE
      rcases gh_E_lv gh_nil_lv (by decide) hE with ⟨h, _⟩ | ⟨h, _⟩ | ⟨h, _⟩ | ⟨_, h⟩ | ⟨h, _⟩
      · omega
      · omega
      · omega
      · exact Or.inl h
      · omega
  have all : g p = gh_F ∨ ∃ l : Nat × Nat, l.1 = 1 ∧ [l] <:+ g p := by
    refine gh_dp_ind (fun x => g x = gh_F ∨ ∃ l : Nat × Nat, l.1 = 1 ∧ [l] <:+ g x) base (fun p k u _ hq h16 hk hu => ?_) hd
    have hE := H.1.1 p k u hu
    rw [gh_ca16 (by omega), gh_ce16 h16] at hE
    rcases hq with h | ⟨l, hl, h⟩
    · rw [h] at hE
      rcases hE with h | h | ⟨_, h⟩ | ⟨h, _⟩
      · omega
      · cases h
      · exact Or.inl h
      · exact absurd rfl h.1
    · have okl : gh_ok [l] := ⟨l, rfl, by omega⟩
      have hv : gh_lv (g p) := by obtain ⟨q, hq⟩ := h; rw [← hq]; exact gh_ok_lv (gh_ok_app okl q)
      rcases gh_e_up (gh_E_lv hv hk hE) with h' | h'
      · exact Or.inl h'
      · exact Or.inr ⟨l, hl, List.IsSuffix.trans h h'⟩
  refine ⟨all, (H.2.2.2.1 p (fun e => ?_)).2⟩
  rw [e] at all
  rcases all with h | ⟨l, hl, h⟩
  · cases h
  · exact gh_sf_D (by omega) h
theorem gh_msg_n {p a' : Nat} (h : g p = gh_F ∨ ∃ l : Nat × Nat, l.1 = 1 ∧ [l] <:+ g p) : (g p).getLast? ≠ some (0, a') := by
  intro e
  rcases h with h | ⟨l, hl, q, h⟩
  · rw [h] at e; simp [gh_F] at e
  · rw [← h, gh_last_app (by simp)] at e
    have : l = (0, a') := by simpa using e
    rw [this] at hl; simp at hl
end
/-! what is asked while actor a runs: K, cells of locals and messages -/
def sy_K (ow : Nat → Option Nat) (ct : Nat → Nat → Int) (b o : Nat) : Prop := ow o = some b ∨ (ow o ≠ none ∧ 1 ≤ ct b o)
def sy_E (ow : Nat → Option Nat) (o : Nat) : Prop := ow o ≠ none
def sy_cb (pr : Nat → Nat) (q : ct_Q) (t : ty_T) : Nat → Nat → Nat := fun h k => if h = 20 then (t.1 k).getD 6 else if h = 21 then pr (q k).2.2.1 else 6
def sy_cx (a b : Nat) (t : ty_T) : Nat → Nat → gh_P := fun h k => if h = 21 then [] else if h = 20 ∧ t.2.2.1 k = true then [(1, b), (0, a)] else [(0, a)]
def sy_P (a b : Nat) (t : ty_T) : gh_P := if t.2.2.2 = true then [(1, b), (0, a)] else [(0, a)]
/-- in a block, what isn't hidden and can't be sent became something there -/
def ty_v (t : ty_T) : Prop := t.2.2.2 = true → ∀ y c, t.1 y = some c → t.2.1 y = false → st_sn c = false → t.2.2.1 y = true
def sy_W (ct : Nat → Nat → Int) (q : ct_Q) (m o : Nat) : Int := ct_sum (fun b => ct b o) 4 + ct_sum (fun i => if (q i).1 = 1 ∧ (q i).2.2.1 = o then (q i).2.2.2.1 else 0) m
def sy_R (a b n nf : Nat) (pr : Nat → Nat) (t : ty_T) (pl : Nat → Nat → Option Nat) (ow : Nat → Option Nat) (ct : Nat → Nat → Int) (q : ct_Q) (m : Nat) (lo : Nat → Option Nat) (Bd : Int) : Prop :=
  (∃ g V, gh_J a b (sy_K ow ct) (sy_E ow) pl (sy_cb pr q t) (sy_cx a b t) g V) ∧
  (∀ x, pl 20 x = if x < 6 ∧ t.1 x ≠ none then lo x else none) ∧ (∀ x v, lo x = some v → v < 16) ∧
  (∀ h k, 22 ≤ h → pl h k = none) ∧ (∀ h k v, h < 20 → pl h k = some v → v < 16 ∧ k < 6) ∧
  ct_I ow ct q m 0 (fun _ => false) ∧ (∀ o, o < 16 → ow o = none → ∀ b, b < 4 → ct b o = 0) ∧ (∀ o a, ow o = some a → a < n ∧ o < 16) ∧ n ≤ 4 ∧
  (m ≤ 20 ∧ (∀ i, i < m → (q i).1 < 3 ∧ (q i).2.1 < n ∧ ((q i).1 = 0 → (q i).2.2.1 < nf) ∧ ((q i).1 = 1 → (q i).2.2.2.1 = 8) ∧ ((q i).1 = 2 → 0 ≤ (q i).2.2.2.1)) ∧ (∀ i o, i < m → (q i).1 = 0 → o < 16 → ((q i).2.2.2.2 o = true ↔ ∃ v, pl 21 i = some v ∧ gh_cl pl v (pr (q i).2.2.1) o)) ∧ (∀ i, ¬ (i < m ∧ (q i).1 = 0) → pl 21 i = none) ∧ (∀ i v, pl 21 i = some v → v < 16)) ∧
  (∀ o, o < 16 → sy_W ct q m o ≤ Bd)
