/-! The start -/
theorem sy_0 {n : Nat} {pr : Nat → Nat} {q : ct_Q} (hn : n ≤ 4) : sy_R 0 0 n 0 pr ty_e (fun _ _ => none) (fun _ => none) (fun _ _ => 0) q 0 (fun _ => none) 0 := by
  refine ⟨⟨fun _ => gh_D, fun _ _ => False, ⟨fun h k t ht => (by cases ht), fun _ _ _ _ _ _ h1 => (by cases h1)⟩, ⟨fun b o h => by simp [gh_D] at h, fun b o h => h.elim⟩, ⟨fun _ _ _ h => h.elim, fun _ _ _ _ _ h => (by cases h)⟩, fun o h => absurd rfl h, fun _ _ _ h => (by cases h), fun h k hh => ?_⟩, fun x => by simp [ty_e], fun x v h => (by cases h), fun _ _ _ => rfl, fun h k v _ hv => (by cases hv), ⟨fun o a _ h => (by cases h), fun i hi => by omega, fun i o hi => by omega, fun o ho h => (by cases h)⟩, fun _ _ _ _ _ => rfl, fun o a h => (by cases h), hn, ⟨by omega, fun i hi => by omega, fun i o hi => by omega, fun i hi => rfl, fun i v hv => (by cases hv)⟩, fun o ho => ?_⟩
  · unfold sy_cx ty_e
    by_cases e : h = 21
    · exact Or.inr (Or.inr ⟨e, if_pos e⟩)
    · refine Or.inl ?_
      rw [if_neg e, if_neg (by simp)]
  · unfold sy_W; simp [ct_sum]
theorem jo_0 (n : Int32) : ∃ (M2 : am_M) (c : Nat), fd_130 n (pf_M n) = some M2 ∧ jo_W c 0 0 M2 M2 := by
  obtain ⟨c, h1, h4, hc, hr⟩ := it_clamp n
  obtain ⟨m1, m2, m3, m4, m5, m6⟩ := it_M hc
  obtain ⟨M2, e0, e1, e2, e3, e4, e5⟩ := it_185 (nI c) (pf_M n)
  have z : ∀ k, k ≠ 0 → k ≠ 80 → k ≠ 82 → k ≠ 94 → k ≠ 96 → k ≠ 97 → k ≠ 99 → k ≠ 101 → M2 k = fun _ => 0 := fun k a b c d e f g h => by rw [e5 k e f g h, m5 k a b c d]
  have z96 : ∀ j, j ≠ 0 → M2 96 j = 0 := fun j hj => by
    rw [e1, upd, if_neg hj, m5 96 (by decide) (by decide) (by decide) (by decide)]
  have k80 : ∀ j, j < 16 → M2 80 j = -1 := fun j hj => by rw [e5 80 (by decide) (by decide) (by decide) (by decide), m3 j hj]
  have k82 : ∀ j, j < 120 → M2 82 j = -1 := fun j hj => by rw [e5 82 (by decide) (by decide) (by decide) (by decide), m4 j hj]
  have zz : ∀ k, k ≠ 0 → k ≠ 80 → k ≠ 82 → k ≠ 94 → k ≠ 96 → k ≠ 97 → k ≠ 99 → k ≠ 101 → ∀ j, M2 k j = 0 := fun k a b c d e f g h j => by rw [z k a b c d e f g h]
  refine ⟨M2, c, by rw [it_130, hr]; exact e0, h1, h4, ?_, ?_, ?_, Int.le_refl 0, 0, false, fun _ => 0, fun _ => 0, fun _ _ _ => 0, ⟨by omega, fun b hb => by omega⟩, ⟨⟨?_, ?_, fun b hb => by omega⟩, fun e => (by cases e)⟩, ⟨?_, ?_, fun b hb => by omega⟩, 0, 0, fun _ _ => none, fun _ => none, fun _ _ => 0, fun _ => (0, 0, 0, 0, fun _ => false), 0, fun _ => 0, fun _ => none, 0, fun _ => 0, 0, ⟨⟨fun _ _ _ _ h => absurd rfl h, fun a k ha hk => ?_⟩, fun o ho => k80 o ho, fun a o ha ho => ?_, ⟨?_, by omega, fun i hi => by omega⟩, fun _ _ h => absurd rfl h, ?_, ?_, fun k _ hk => by omega⟩, ⟨⟨fun h k hh hk => e3 _ (by omega), fun a k ha hk => e4 _ (by omega)⟩, fun o ho => e2 o ho, fun a o ha ho => ?_, ⟨?_, by omega, fun i hi => by omega⟩, fun o ho => ?_, ?_, ?_, fun k _ hk => by omega⟩, sy_0 h4, Nat.le_refl 0⟩
  · rw [e5 0 (by decide) (by decide) (by decide) (by decide), m1]
  · rw [e5 94 (by decide) (by decide) (by decide) (by decide), m2]
  · rw [e1, upd, if_pos rfl]
  · exact zz 1 (by decide) (by decide) (by decide) (by decide) (by decide) (by decide) (by decide) (by decide) _
  · exact zz 1 (by decide) (by decide) (by decide) (by decide) (by decide) (by decide) (by decide) (by decide) _
  · exact z96 6 (by decide)
  · exact z96 7 (by decide)
  · exact k82 _ (by omega)
  · exact zz 83 (by decide) (by decide) (by decide) (by decide) (by decide) (by decide) (by decide) (by decide) _
  · exact zz 84 (by decide) (by decide) (by decide) (by decide) (by decide) (by decide) (by decide) (by decide) _
  · rw [e5 94 (by decide) (by decide) (by decide) (by decide), m6 7 (by decide)]
  · exact zz 92 (by decide) (by decide) (by decide) (by decide) (by decide) (by decide) (by decide) (by decide) _
  · exact zz 100 (by decide) (by decide) (by decide) (by decide) (by decide) (by decide) (by decide) (by decide) _
  · exact z96 15 (by decide)
  · exact zz 98 (by decide) (by decide) (by decide) (by decide) (by decide) (by decide) (by decide) (by decide) _
  · exact z96 24 (by decide)
  · exact z96 25 (by decide)
