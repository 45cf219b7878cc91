/-! One memory for both; the start; what only reads -/
section
variable {M M' N N' : am_M} {n T T' : Nat} {Bd Bd' : Int}
theorem jo_W_N (H : jo_W n Bd T M N) (h : ∀ x, 96 ≤ x → N' x = N x) : jo_W n Bd T M N' := by
  obtain ⟨n1, n4, hM0, hM94, hN0, hB0, bg, op, pr, ln, cd, hok, hZ, hP, a0, b0, pl, ow, ct, q, m, ce, lo, ls, sh, tt, hS, hT, R, htt⟩ := H
  exact ⟨n1, n4, hM0, hM94, by rw [h 96 (by decide)]; exact hN0, hB0, bg, op, pr, ln, cd, hok, hZ, rf_P_f hP (by rw [h 96 (by decide)]) (by rw [h 96 (by decide)]) (h _ (by decide)) (h _ (by decide)) (h _ (by decide)), a0, b0, pl, ow, ct, q, m, ce, lo, ls, sh, tt, hS, rf_S_f hT (fun x hx => h x (by omega)) (fun s _ => by rw [h 96 (by decide)]), R, htt⟩
theorem jo_W_M (H : jo_W n Bd T M N) (h : ∀ x, x < 96 → M' x = M x) : jo_W n Bd T M' N := by
  obtain ⟨n1, n4, hM0, hM94, hN0, hB0, bg, op, pr, ln, cd, hok, hZ, hP, a0, b0, pl, ow, ct, q, m, ce, lo, ls, sh, tt, hS, hT, R, htt⟩ := H
  refine ⟨n1, n4, by rw [h 0 (by decide)]; exact hM0, by rw [h 94 (by decide)]; exact hM94, hN0, hB0, bg, op, pr, ln, cd, hok, ⟨⟨?_, ?_, fun b hb => ?_⟩, fun e => ⟨(hZ.2 e).1, cl_Y_f (hZ.2 e).2 (fun x _ h2 => h x (by omega))⟩⟩, hP, a0, b0, pl, ow, ct, q, m, ce, lo, ls, sh, tt, cl_S_f hS (fun x _ h2 _ _ _ => h x (by omega)), hT, R, htt⟩
  · rw [h 1 (by decide)]; exact hZ.1.1
  · rw [h 1 (by decide)]; exact hZ.1.2.1
  · have b6 := hok.1
    obtain ⟨p1, p2, p3⟩ := hZ.1.2.2 b hb
    have l10 := (hok.2 b hb).2.2.1
    exact ⟨by rw [h _ (by omega)]; exact p1, by rw [h _ (by omega)]; exact p2, fun k i hk hi => by rw [h _ (by omega)]; exact p3 k i hk hi⟩
theorem jo_1 {F G : am_M → Option (Int32 × am_M)} (h : jo_g F G n Bd T Bd' T') (H : jo_W n Bd T M M) : ∃ r M1 M2, F M = some (r, M1) ∧ G M1 = some (r, M2) ∧ jo_W n Bd' T' M2 M2 := by
  obtain ⟨r, M1, _, e1, _, _, e3, _⟩ := h M M H
  obtain ⟨r', M1', M2, f1, f2, f3, _, f4⟩ := h M M1 (jo_W_N H e3)
  rw [e1] at f1
  injection f1 with f1
  injection f1 with f1 f1'
  subst f1; subst f1'
  exact ⟨r, M1, M2, e1, f2, jo_W_M f3 f4⟩
theorem jo_rl (H : jo_W n Bd T M M) (hT : T < 90000) : rl_A M n ∧ rl_O M n ∧ rl_C M ∧ rl_N M ∧ rl_H M ∧ (∃ m, rl_M M m) ∧ rl_L M ∧ ∃ t, rl_D M t := by
  obtain ⟨n1, n4, hM0, hM94, hN0, hB0, bg, op, pr, ln, cd, hok, hZ, hP, a0, b0, pl, ow, ct, q, m, ce, lo, ls, sh, tt, ⟨sH, sO, sT, sQ, sC, sL, sD⟩, ⟨tH, tO, tT, tQ, tC, tL, tD⟩, R, htt⟩ := H
  have h8 := R.2.2.2.2.2.2.2.1
  have lv : ∀ j, j < 16 → M 97 j ≠ -1 → ow j ≠ none := fun j hj h e => h (by rw [tO j hj, e]; rfl)
  refine ⟨⟨n1, n4, hM0, hM94, hN0⟩, fun j hj => ⟨by rw [sO j hj, tO j hj], ?_⟩, fun j hj h => by rw [sC j hj (lv j hj h), tC j hj], fun i hi => ?_, ⟨fun j k hj hk h => by rw [sH.1 j k hj hk (lv j hj h), tH.1 j k hj hk], fun a k ha hk => by rw [sH.2 a k ha hk, tH.2 a k ha hk]⟩, ⟨m, sQ.2.1, sQ.1, tQ.1, fun i hi => ⟨by rw [(sQ.2.2 i hi).1, (tQ.2.2 i hi).1], by rw [(sQ.2.2 i hi).2.1, (tQ.2.2 i hi).2.1]⟩⟩, by rw [rl_L, sL, tL], tt, by omega, sD.1, tD.1, fun k h1 h2 => by rw [sD.2 k h1 h2, tD.2 k h1 h2]⟩
  · rw [tO j hj]
    cases e : ow j with
    | none => exact Or.inl rfl
    | some a => exact Or.inr ⟨a, (h8 j a e).1, rfl⟩
  · have e1 := sT (i / 16) (i % 16) (by omega) (by omega)
    have e2 := tT (i / 16) (i % 16) (by omega) (by omega)
    rw [show i / 16 * 16 + i % 16 = i by omega] at e1
    rw [show 16 * (i / 16) + i % 16 = i by omega] at e2
    rw [e1, e2]
end
