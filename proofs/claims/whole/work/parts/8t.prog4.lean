/-! The program's calls, in the whole state -/
section
variable {a b n nf nf' : Nat} {pr pr' : Nat → Nat} {t : ty_T} {pl : Nat → Nat → Option Nat} {ow : Nat → Option Nat} {ct : Nat → Nat → Int} {q : ct_Q} {m : Nat} {lo : Nat → Option Nat} {Bd : Int} {T : Nat} {M M' N N' : am_M}
theorem sy_R_pr (R : sy_R a b n nf pr t pl ow ct q m lo Bd) (h1 : nf ≤ nf') (h2 : ∀ b, b < nf → pr' b = pr b) : sy_R a b n nf' pr' t pl ow ct q m lo Bd := by
  obtain ⟨⟨g, V, J⟩, r2, r3, r4, r5, r6, r7, r8, r9, ⟨k1, k2, k3, k4, k5⟩, r11⟩ := R
  have kn : ∀ i v, pl 21 i = some v → i < m ∧ (q i).1 = 0 := fun i v hv => Classical.not_not.mp (fun h => by rw [k4 i h] at hv; cases hv)
  have J1 := gh_J_mono (pl' := pl) (cb' := sy_cb pr' q t) (cx' := sy_cx a b t) J (fun h k v hv => ⟨hv, by
    unfold gh_ca
    by_cases e : h < 20
    · rw [if_pos e, if_pos e]
    · rw [if_neg e, if_neg e]
      unfold sy_cb
      by_cases e2 : h = 21
      · subst e2
        obtain ⟨i1, i2⟩ := kn k v hv
        simp [h2 _ ((k2 k i1).2.2.1 i2)]
      · simp [e2], fun _ => rfl⟩) J.2.2.2.2.2
  refine ⟨⟨g, V, J1⟩, r2, r3, r4, r5, r6, r7, r8, r9, ⟨k1, fun i hi => ?_, fun i o hi hk ho => ?_, k4, k5⟩, r11⟩
  · obtain ⟨g1, g2, g3, g4, g5⟩ := k2 i hi
    exact ⟨g1, g2, fun e => by have := g3 e; omega, g4, g5⟩
  · rw [h2 _ ((k2 i hi).2.2.1 hk)]; exact k3 i o hi hk ho
theorem jo_pg {L : List Nat} {bg bg' : Nat} {op op' : Bool} {pr pr' ln' : Nat → Nat} {cd' : Nat → Nat → Nat → Int32} {ce : Nat → Int32} {ls : Int32} {sh : Nat → Int32} {tt : Nat} (h1 : 1 ≤ n) (h4 : n ≤ 4) (hM : M 0 0 = nI n) (hM' : M 94 0 = nI n) (hN : N 96 0 = nI n) (h0 : 0 ≤ Bd) (hS : cl_S M pl ow ct q m ce ls sh tt) (hT : rf_S N pl ow ct q m ce ls sh tt) (R : sy_R a b n (pg_f bg op) pr ty_e pl ow ct q m lo Bd) (ht : tt ≤ T) (hZ' : cl_Z M' bg' op' pr' ln' cd') (hP' : rf_P N' bg' op' pr' ln' cd') (hok' : pg_ok bg' pr' ln' cd') (hp : fr_p M M') (hf : fr_ L N N') (hL : ∀ x, x ∈ L → x = 96 ∨ 102 ≤ x ∧ x ≤ 107) (hs : fs_ [6, 7, 14] N N') (hle : pg_f bg op ≤ pg_f bg' op') (hpr : ∀ b, b < pg_f bg op → pr' b = pr b) : jo_W n Bd T M' N' ∧ (∀ h, 96 ≤ h → M' h = M h) ∧ ∀ h, h < 96 → N' h = N h := by
  refine ⟨⟨h1, h4, by rw [hp 0 (Or.inl rfl)]; exact hM, by rw [hp 94 (by omega)]; exact hM', by rw [hs 0 (by decide)]; exact hN, h0, bg', op', pr', ln', cd', hok', hZ', hP', a, b, pl, ow, ct, q, m, ce, lo, ls, sh, tt, cl_S_f hS (fun x h1 h2 _ _ _ => hp x (by omega)), rf_S_f hT (fun x hx => hf x (fun g => by have := hL x g; omega)) (fun s hs' => hs s (by rcases hs' with rfl | rfl | rfl <;> decide)), sy_R_pr R hle hpr, ht⟩, fun h hh => hp h (by omega), fun h hh => hf h (fun g => by have := hL h g; omega)⟩
theorem jo_begin (v : Int32) : jo_g (fd_12 v) (fd_131 v) n Bd T Bd T := by
  intro M N H
  obtain ⟨n1, n4, hM0, hM94, hN0, hB0, bg, op, pr, ln, cd, hok, hZ, hP, a0, b0, pl, ow, ct, q, m, ce, lo, ls, sh, tt, hS, hT, R, htt⟩ := H
  obtain ⟨r, M', N', bg', op', pr', ln', e1, e2, e3, e4, e5, e6, e7, e8, e9, e10⟩ := op_begin hok hZ hP v
  exact ⟨r, M', N', e1, e2, jo_pg n1 n4 hM0 hM94 hN0 hB0 hS hT R htt e3 e4 e5 e6 e7 (by decide) (fs_up e8 (by decide)) e9 e10⟩
theorem jo_drop : jo_g fd_57 fd_133 n Bd T Bd T := by
  intro M N H
  obtain ⟨n1, n4, hM0, hM94, hN0, hB0, bg, op, pr, ln, cd, hok, hZ, hP, a0, b0, pl, ow, ct, q, m, ce, lo, ls, sh, tt, hS, hT, R, htt⟩ := H
  obtain ⟨r, M', N', bg', e1, e2, e3, e4, e5, e6, e7, e8, e9⟩ := op_drop hok hZ hP
  exact ⟨r, M', N', e1, e2, jo_pg n1 n4 hM0 hM94 hN0 hB0 hS hT R htt e3 e4 e5 e6 e7 (by decide) (fs_up e8 (by decide)) (by omega) (fun _ _ => rfl)⟩
theorem jo_end : jo_g fd_54 fd_134 n Bd T Bd T := by
  intro M N H
  obtain ⟨n1, n4, hM0, hM94, hN0, hB0, bg, op, pr, ln, cd, hok, hZ, hP, a0, b0, pl, ow, ct, q, m, ce, lo, ls, sh, tt, hS, hT, R, htt⟩ := H
  obtain ⟨r, M', N', op', e1, e2, e3, e4, e6, e7, e8, e9⟩ := op_end hok hZ hP
  exact ⟨r, M', N', e1, e2, jo_pg n1 n4 hM0 hM94 hN0 hB0 hS hT R htt e3 e4 hok e6 e7 (by decide) (fs_up e8 (by decide)) (by omega) (fun _ _ => rfl)⟩
theorem jo_add (a1 a2 a3 a4 a5 : Int32) : jo_g (fd_21 a1 a2 a3 a4 a5) (fd_145 a1 a2 a3 a4 a5) n Bd T Bd T := by
  intro M N H
  obtain ⟨n1, n4, hM0, hM94, hN0, hB0, bg, op, pr, ln, cd, hok, hZ, hP, a0, b0, pl, ow, ct, q, m, ce, lo, ls, sh, tt, hS, hT, R, htt⟩ := H
  obtain ⟨r, M', N', ln', cd', e1, e2, e3, e4, e5, e6, e7, e8⟩ := op_add hok hZ hP a1 a2 a3 a4 a5
  exact ⟨r, M', N', e1, e2, jo_pg n1 n4 hM0 hM94 hN0 hB0 hS hT R htt e3 e4 e5 e6 e7 (by decide) (fs_up e8 (by decide)) (Nat.le_refl _) (fun _ _ => rfl)⟩
theorem jo_holds (v : Int32) : jo_g (fd_59 v) (fd_153 v) n Bd T Bd T := by
  intro M N H
  obtain ⟨n1, n4, hM0, hM94, hN0, hB0, bg, op, pr, ln, cd, hok, hZ, hP, a0, b0, pl, ow, ct, q, m, ce, lo, ls, sh, tt, hS, hT, R, htt⟩ := H
  obtain ⟨r, N', e1, e2, e4, e7, e8⟩ := op_holds hok hZ hP v
  exact ⟨r, M, N', e1, e2, jo_pg n1 n4 hM0 hM94 hN0 hB0 hS hT R htt hZ e4 hok (fun _ _ => rfl) e7 (by decide) (fs_up e8 (by decide)) (Nat.le_refl _) (fun _ _ => rfl)⟩
end
