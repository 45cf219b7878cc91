/-! A statement in numbers -/
def st_ux (j : Nat) : Bool := decide (j ≤ 3) || (decide (j = 5) || (decide (j = 8) || decide (j = 10)))
def st_uf (j : Nat) : Bool := decide (j = 0) || (decide (3 ≤ j) && decide (j ≤ 5))
def sm_is (op x y f z : Int32) (j x' y' f' z' : Nat) : Prop := op = nI j ∧ (st_ux j = true → x = nI x') ∧ (st_uy j = true ∨ j = 8 → y = nI y') ∧ (st_uf j = true → f = nI f') ∧ (st_uz j = true → z = nI z')
def sm_rg (bg : Nat) (j x' y' f' z' : Nat) : Prop := j < 11 ∧ (st_ux j = true → x' < 6 ∧ (j = 8 → x' < 4)) ∧ (st_uy j = true → y' < 7 ∧ (y' = 6 → 3 ≤ j ∧ j ≤ 5)) ∧ (j = 8 → y' < bg) ∧ (st_uf j = true → f' < 6) ∧ (st_uz j = true → z' < 6)
theorem sm_of {bg : Nat} (hb : bg < 1000) {op x y f z : Int32} (h : st_nm bg op x y f z = true) : ∃ j x' y' f' z', sm_is op x y f z j x' y' f' z' ∧ sm_rg bg j x' y' f' z' := by
  have ev : ∀ {b c : Bool}, (b && c) = true → b = true ∧ c = true := fun {b c} h => by simpa using h
  have r6 : ∀ {v : Int32}, pu_r v 6 = true → ∃ k, k < 6 ∧ v = nI k := fun h => pu_r_of (by decide) h
  have r7 : ∀ {v : Int32}, pu_r v 7 = true → ∃ k, k < 7 ∧ v = nI k := fun h => pu_r_of (by decide) h
  unfold st_nm at h
  by_cases e0 : op = 0
  · rw [if_pos e0] at h
    obtain ⟨a, b⟩ := ev h
    obtain ⟨x', hx, rfl⟩ := r6 a
    obtain ⟨f', hf, rfl⟩ := r6 b
    exact ⟨0, x', 0, f', 0, ⟨e0, fun _ => rfl, fun h => absurd h (by decide), fun _ => rfl, fun h => absurd h (by decide)⟩, by decide, fun _ => ⟨hx, by omega⟩, fun h => absurd h (by decide), by omega, fun _ => hf, fun h => absurd h (by decide)⟩
  rw [if_neg e0] at h
  by_cases e1 : op = 1
  · rw [if_pos e1] at h
    obtain ⟨a, b⟩ := ev h
    obtain ⟨x', hx, rfl⟩ := r6 a
    obtain ⟨f', hf, rfl⟩ := r6 b
    exact ⟨1, x', f', 0, 0, ⟨e1, fun _ => rfl, fun _ => rfl, fun h => absurd h (by decide), fun h => absurd h (by decide)⟩, by decide, fun _ => ⟨hx, by omega⟩, fun _ => ⟨by omega, by omega⟩, by omega, fun h => absurd h (by decide), fun h => absurd h (by decide)⟩
  rw [if_neg e1] at h
  by_cases e2 : op = 2
  · rw [if_pos e2] at h
    obtain ⟨a, b⟩ := ev h
    obtain ⟨x', hx, rfl⟩ := r6 a
    obtain ⟨f', hf, rfl⟩ := r6 b
    exact ⟨2, x', f', 0, 0, ⟨e2, fun _ => rfl, fun _ => rfl, fun h => absurd h (by decide), fun h => absurd h (by decide)⟩, by decide, fun _ => ⟨hx, by omega⟩, fun _ => ⟨by omega, by omega⟩, by omega, fun h => absurd h (by decide), fun h => absurd h (by decide)⟩
  rw [if_neg e2] at h
  by_cases e3 : op = 3
  · rw [if_pos e3] at h
    obtain ⟨a, b⟩ := ev h
    obtain ⟨b, c⟩ := ev b
    obtain ⟨x', hx, rfl⟩ := r6 a
    obtain ⟨y', hy, rfl⟩ := r7 b
    obtain ⟨f', hf, rfl⟩ := r6 c
    exact ⟨3, x', y', f', 0, ⟨e3, fun _ => rfl, fun _ => rfl, fun _ => rfl, fun h => absurd h (by decide)⟩, by decide, fun _ => ⟨hx, by omega⟩, fun _ => ⟨hy, by omega⟩, by omega, fun _ => hf, fun h => absurd h (by decide)⟩
  rw [if_neg e3] at h
  by_cases e4 : op = 4
  · rw [if_pos e4] at h
    obtain ⟨a, b⟩ := ev h
    obtain ⟨b, c⟩ := ev b
    obtain ⟨y', hy, rfl⟩ := r7 a
    obtain ⟨f', hf, rfl⟩ := r6 b
    obtain ⟨z', hz, rfl⟩ := r6 c
    exact ⟨4, 0, y', f', z', ⟨e4, fun h => absurd h (by decide), fun _ => rfl, fun _ => rfl, fun _ => rfl⟩, by decide, fun h => absurd h (by decide), fun _ => ⟨hy, by omega⟩, by omega, fun _ => hf, fun _ => hz⟩
  rw [if_neg e4] at h
  by_cases e5 : op = 5
  · rw [if_pos e5] at h
    obtain ⟨a, b⟩ := ev h
    obtain ⟨b, c⟩ := ev b
    obtain ⟨c, d⟩ := ev c
    obtain ⟨x', hx, rfl⟩ := r6 a
    obtain ⟨y', hy, rfl⟩ := r7 b
    obtain ⟨f', hf, rfl⟩ := r6 c
    obtain ⟨z', hz, rfl⟩ := r6 d
    exact ⟨5, x', y', f', z', ⟨e5, fun _ => rfl, fun _ => rfl, fun _ => rfl, fun _ => rfl⟩, by decide, fun _ => ⟨hx, by omega⟩, fun _ => ⟨hy, by omega⟩, by omega, fun _ => hf, fun _ => hz⟩
  rw [if_neg e5] at h
  by_cases e6 : op = 6
  · rw [if_pos e6] at h
    obtain ⟨y', hy, rfl⟩ := r6 h
    exact ⟨6, 0, y', 0, 0, ⟨e6, fun h => absurd h (by decide), fun _ => rfl, fun h => absurd h (by decide), fun h => absurd h (by decide)⟩, by decide, fun h => absurd h (by decide), fun _ => ⟨by omega, by omega⟩, by omega, fun h => absurd h (by decide), fun h => absurd h (by decide)⟩
  rw [if_neg e6] at h
  by_cases e7 : op = 7
  · rw [if_pos e7] at h
    obtain ⟨y', hy, rfl⟩ := r6 h
    exact ⟨7, 0, y', 0, 0, ⟨e7, fun h => absurd h (by decide), fun _ => rfl, fun h => absurd h (by decide), fun h => absurd h (by decide)⟩, by decide, fun h => absurd h (by decide), fun _ => ⟨by omega, by omega⟩, by omega, fun h => absurd h (by decide), fun h => absurd h (by decide)⟩
  rw [if_neg e7] at h
  by_cases e8 : op = 8
  · rw [if_pos e8] at h
    obtain ⟨a, b⟩ := ev h
    obtain ⟨b, c⟩ := ev b
    obtain ⟨x', hx, rfl⟩ := pu_r_of (by decide) a
    obtain ⟨y', hy, rfl⟩ := pu_r_of hb b
    obtain ⟨z', hz, rfl⟩ := r6 c
    exact ⟨8, x', y', 0, z', ⟨e8, fun _ => rfl, fun _ => rfl, fun h => absurd h (by decide), fun _ => rfl⟩, by decide, fun _ => ⟨by omega, fun _ => hx⟩, fun h => absurd h (by decide), fun _ => hy, fun h => absurd h (by decide), fun _ => hz⟩
  rw [if_neg e8] at h
  by_cases e9 : op = 9
  · exact ⟨9, 0, 0, 0, 0, ⟨e9, fun h => absurd h (by decide), fun h => absurd h (by decide), fun h => absurd h (by decide), fun h => absurd h (by decide)⟩, by decide, fun h => absurd h (by decide), fun h => absurd h (by decide), by omega, fun h => absurd h (by decide), fun h => absurd h (by decide)⟩
  rw [if_neg e9] at h
  by_cases e10 : op = 10
  · rw [if_pos e10] at h
    obtain ⟨a, b⟩ := ev h
    obtain ⟨x', hx, rfl⟩ := r6 a
    obtain ⟨f', hf, rfl⟩ := r6 b
    exact ⟨10, x', f', 0, 0, ⟨e10, fun _ => rfl, fun _ => rfl, fun h => absurd h (by decide), fun h => absurd h (by decide)⟩, by decide, fun _ => ⟨hx, by omega⟩, fun _ => ⟨by omega, by omega⟩, by omega, fun h => absurd h (by decide), fun h => absurd h (by decide)⟩
  rw [if_neg e10] at h
  cases h
section
variable {M N : am_M} {t : ty_T} {pr : Nat → Nat} {h bg : Nat}
theorem gh_al6 {c : Nat} (h : c < 6) : gh_al c < 6 := by
  rcases lt6 h with rfl | rfl | rfl | rfl | rfl | rfl <;> decide
/-- refusalOfStoring -/
theorem cs_39 {s y f cy : Nat} (H : cl_Y M t) (hs : s < 6) (hy : M h 2 = nI y) (hy7 : y < 7) (hf : M h 3 = nI f) (hf6 : f < 6) (hc : ty_c t y = some cy) (hc6 : cy < 6) : fd_39 h (nI s) M = some (nI (if cy < 3 then (if st_sa s cy = true then (if st_su s f = true then 0 else 9) else 8) else 7), M) := by
  unfold fd_39
  rw [hy]
  simp (disch := omega) only [pu_cl, pu_g2]
  rw [(cl_Y_c H hy7).1, hc, en_o_s, cs_37 hc6, Option.bind_some, pu_b_if]
  by_cases c3 : cy < 3
  · rw [if_pos (decide_eq_true c3), if_pos c3]
    simp only []
    rw [cs_40 hs c3, Option.bind_some, pu_b_if]
    cases st_sa s cy with
    | true =>
      rw [if_pos rfl, if_pos rfl]
      simp only []
      rw [hf, cs_41 hs hf6, Option.bind_some, pu_b_if]
      cases st_su s f <;> rfl
    | false => rfl
  · rw [if_neg (by simpa using c3), if_neg c3]; rfl
theorem cs_27 {op x y f z : Int32} {j x' y' f' z' : Nat} (H : cl_Y M t) (hw : ty_w t) (hpr : ∀ b, b < bg → M (7 + 12 * b) 1 = nI (pr b) ∧ pr b < 6) (hbg6 : bg ≤ 6) (hb : M 1 2 = nI bg) (h0 : M h 0 = op) (h1 : M h 1 = x) (h2 : M h 2 = y) (h3 : M h 3 = f) (h4 : M h 4 = z) (hnm : st_nm bg op x y f z = true) (his : sm_is op x y f z j x' y' f' z') (hrg : sm_rg bg j x' y' f' z') : fd_27 h M = some (nI (st_re pr t j y' f' z'), M) := by
  obtain ⟨i0, ix, iy, iff, iz⟩ := his
  obtain ⟨rj, rx, ry, r8, rf, rz⟩ := hrg
  have hj0 : M h 0 = nI j := by rw [h0, i0]
  have hy : st_uy j = true → M h 2 = nI y' ∧ y' < 7 := fun u => ⟨by rw [h2, iy (Or.inl u)], (ry u).1⟩
  have hz : st_uz j = true → M h 4 = nI z' ∧ z' < 6 := fun u => ⟨by rw [h4, iz u], rz u⟩
  have c6 : ∀ {v c : Nat}, ty_c t v = some c → c < 6 := fun h => ty_c6 hw h
  have nj : ∀ k, k < 11 → (M h 0 = nI k ↔ j = k) := fun k hk => by rw [hj0]; exact en_nI (by omega) (by omega)
  have tail : (st_uy j = true → ty_c t y' ≠ none) → (st_uz j = true → ty_c t z' ≠ none) → fd_32_135 h M = some (nI (if j = 8 then 0 else st_tl pr j ((ty_c t y').getD 0) ((ty_c t z').getD 0) y' f'), M) := by
    intro g1 g2
    have gy : st_uy j = true → ∃ cy, ty_c t y' = some cy ∧ cy < 6 := by
      intro u
      cases hc : ty_c t y' with
      | none => exact absurd hc (g1 u)
      | some cy => exact ⟨cy, rfl, c6 hc⟩
    have gz : st_uz j = true → ∃ cz, ty_c t z' = some cz ∧ cz < 6 := by
      intro u
      cases hc : ty_c t z' with
      | none => exact absurd hc (g2 u)
      | some cz => exact ⟨cz, rfl, c6 hc⟩
    have rdr : ∀ cy, ty_c t y' = some cy → cy < 6 → st_uy j = true → (if (M h 2) < 0 ∨ 7 ≤ (M h 2).toNatClampNeg then none else (fd_36 (M 4 (M h 2).toNatClampNeg) M).bind fun q3 => if q3.1 = (0 : Int32) then (some ((7 : Int32), q3.2)) else (some ((0 : Int32), q3.2))) = some (nI (if cy < 5 then 0 else 7), M) := by
      intro cy e1 e2 u
      obtain ⟨e3, e4⟩ := hy u
      rw [e3]
      simp (disch := omega) only [pu_cl, pu_g2]
      rw [(cl_Y_c H e4).1, e1, en_o_s, cs_36 e2, Option.bind_some, pu_b_if]
      by_cases c : cy < 5
      · rw [if_pos (decide_eq_true c), if_pos c]; rfl
      · rw [if_neg (by simpa using c), if_neg c]; rfl
    have rdw : ∀ cy, ty_c t y' = some cy → cy < 6 → st_uy j = true → (if (M h 2) < 0 ∨ 7 ≤ (M h 2).toNatClampNeg then none else (fd_37 (M 4 (M h 2).toNatClampNeg) M).bind fun q3 => if q3.1 = (0 : Int32) then (some ((7 : Int32), q3.2)) else (some ((0 : Int32), q3.2))) = some (nI (if cy < 3 then 0 else 7), M) := by
      intro cy e1 e2 u
      obtain ⟨e3, e4⟩ := hy u
      rw [e3]
      simp (disch := omega) only [pu_cl, pu_g2]
      rw [(cl_Y_c H e4).1, e1, en_o_s, cs_37 e2, Option.bind_some, pu_b_if]
      by_cases c : cy < 3
      · rw [if_pos (decide_eq_true c), if_pos c]; rfl
      · rw [if_neg (by simpa using c), if_neg c]; rfl
    unfold fd_32_135 st_tl
    by_cases e3 : j = 3
    · have u : st_uy j = true := by rw [e3]; rfl
      obtain ⟨cy, gc, gl⟩ := gy u
      rw [if_pos (show M h 0 = (3 : Int32) from (nj 3 (by decide)).mpr e3), rdr cy gc gl u, gc, if_neg (show ¬ j = 8 by omega), if_pos (show j = 3 ∨ j = 7 from Or.inl e3)]; rfl
    rw [if_neg (show ¬ M h 0 = 3 from fun g => e3 ((nj 3 (by decide)).mp g))]
    by_cases e4 : j = 4
    · have u : st_uy j = true := by rw [e4]; rfl
      have uz : st_uz j = true := by rw [e4]; rfl
      obtain ⟨cy, gc, gl⟩ := gy u
      obtain ⟨cz, gcz, glz⟩ := gz uz
      obtain ⟨e5, e6⟩ := hz uz
      obtain ⟨e7, e8⟩ := hy u
      rw [if_pos (show M h 0 = (4 : Int32) from (nj 4 (by decide)).mpr e4), e5]
      simp (disch := omega) only [pu_cl, pu_g2]
      rw [(cl_Y_c H (show z' < 7 by omega)).1, gcz, en_o_s, cs_38 glz, Option.bind_some]
      simp only []
      rw [cs_39 H (gh_al6 glz) e7 e8 (show M h 3 = nI f' by rw [h3, iff (by rw [e4]; rfl)]) (rf (by rw [e4]; rfl)) gc gl, Option.bind_some, gc, if_neg (show ¬ j = 8 by omega), if_neg (show ¬ (j = 3 ∨ j = 7) by omega), if_neg (show ¬ j = 6 by omega), if_pos (show j = 4 from e4)]; rfl
    rw [if_neg (show ¬ M h 0 = 4 from fun g => e4 ((nj 4 (by decide)).mp g))]
    by_cases e5 : j = 5
    · have u : st_uy j = true := by rw [e5]; rfl
      have uz : st_uz j = true := by rw [e5]; rfl
      obtain ⟨cy, gc, gl⟩ := gy u
      obtain ⟨cz, gcz, glz⟩ := gz uz
      obtain ⟨e5', e6⟩ := hz uz
      obtain ⟨e7, e8⟩ := hy u
      rw [if_pos (show M h 0 = (5 : Int32) from (nj 5 (by decide)).mpr e5), e5']
      simp (disch := omega) only [pu_cl, pu_g2]
      rw [(cl_Y_c H (show z' < 7 by omega)).1, gcz, en_o_s]
      rw [cs_39 H glz e7 e8 (show M h 3 = nI f' by rw [h3, iff (by rw [e5]; rfl)]) (rf (by rw [e5]; rfl)) gc gl, Option.bind_some, gc, if_neg (show ¬ j = 8 by omega), if_neg (show ¬ (j = 3 ∨ j = 7) by omega), if_neg (show ¬ j = 6 by omega), if_neg (show ¬ j = 4 by omega), if_pos (show j = 5 from e5)]; rfl
    rw [if_neg (show ¬ M h 0 = 5 from fun g => e5 ((nj 5 (by decide)).mp g))]
    by_cases e6 : j = 6
    · have u : st_uy j = true := by rw [e6]; rfl
      obtain ⟨cy, gc, gl⟩ := gy u
      rw [if_pos (show M h 0 = (6 : Int32) from (nj 6 (by decide)).mpr e6), rdw cy gc gl u, gc, if_neg (show ¬ j = 8 by omega), if_neg (show ¬ (j = 3 ∨ j = 7) by omega), if_pos (show j = 6 from e6)]; rfl
    rw [if_neg (show ¬ M h 0 = 6 from fun g => e6 ((nj 6 (by decide)).mp g))]
    by_cases e7 : j = 7
    · have u : st_uy j = true := by rw [e7]; rfl
      obtain ⟨cy, gc, gl⟩ := gy u
      rw [if_pos (show M h 0 = (7 : Int32) from (nj 7 (by decide)).mpr e7), rdr cy gc gl u, gc, if_neg (show ¬ j = 8 by omega), if_pos (show j = 3 ∨ j = 7 from Or.inr e7)]; rfl
    rw [if_neg (show ¬ M h 0 = 7 from fun g => e7 ((nj 7 (by decide)).mp g))]
    by_cases e8 : j = 8
    · rw [if_pos e8]; rfl
    · rw [if_neg e8, if_neg (show ¬ (j = 3 ∨ j = 7) by omega), if_neg e6, if_neg e4, if_neg e5, if_neg e8]; rfl
  have a32 := cs_32 H hw rj hj0 hy hz tail
  unfold fd_27
  rw [hb, cs_28 h0 h1 h2 h3 h4, hnm, Option.bind_some]
  simp only [pu_b_if, if_true]
  rw [a32, Option.bind_some]
  unfold st_re
  have n8 := nj 8 (by decide)
  by_cases e8 : j = 8
  · have uz : st_uz j = true := by rw [e8]; rfl
    obtain ⟨e5, e6⟩ := hz uz
    have front : ∀ R, st_fr t j y' z' R = if ty_h t z' = true then 5 else if ty_c t z' = none then 6 else R := by
      intro R
      unfold st_fr
      have u1 : st_uy j = false := by rw [e8]; rfl
      rw [if_neg (by omega), if_neg (by omega), if_neg (by simp [u1]), if_neg (show ¬ (st_uy j = true ∧ ty_c t y' = none) by simp [u1])]
      by_cases c1 : ty_h t z' = true
      · rw [if_pos ⟨uz, c1⟩, if_pos c1]
      · rw [if_neg (fun g => c1 g.2), if_neg c1]
        by_cases c2 : ty_c t z' = none
        · rw [if_pos ⟨uz, c2⟩, if_pos c2]
        · rw [if_neg (fun g => c2 g.2), if_neg c2, if_neg (by omega)]
    rw [front, front, if_pos e8]
    by_cases c1 : ty_h t z' = true
    · rw [if_pos c1, if_pos c1]; exact if_neg (show ¬ nI 5 = (0 : Int32) by decide)
    rw [if_neg c1, if_neg c1]
    cases c2 : ty_c t z' with
    | none => rw [if_pos rfl, if_pos rfl]; exact if_neg (show ¬ nI 6 = (0 : Int32) by decide)
    | some cz =>
      have glz := c6 c2
      rw [if_neg (show ¬ some cz = none by simp), if_neg (show ¬ some cz = none by simp), if_pos (show (nI 0, M).1 = (0 : Int32) from rfl), if_pos (show (nI 0, M).2 h 0 = (8 : Int32) from n8.mpr e8)]
      simp only []
      rw [e5]
      unfold fd_42
      simp (disch := omega) only [pu_cl, pu_g2, Option.bind_some]
      rw [(cl_Y_c H (show z' < 7 by omega)).1, c2, en_o_s, h2, iy (Or.inr e8)]
      obtain ⟨p1, p2⟩ := hpr y' (r8 e8)
      rw [cs_43 (show y' < 6 by have := r8 e8; omega) p1, Option.bind_some]
      simp only []
      rw [cs_41 glz p2, Option.bind_some, pu_b_if]
      unfold st_tl
      rw [if_neg (show ¬ (j = 3 ∨ j = 7) by omega), if_neg (show ¬ j = 6 by omega), if_neg (show ¬ j = 4 by omega), if_neg (show ¬ j = 5 by omega), if_pos e8]
      show _ = some (nI (if st_su cz (pr y') = true then 0 else 9), M)
      cases st_su cz (pr y') <;> rfl
  · rw [if_neg e8]
    rw [if_neg (show ¬ M h 0 = 8 from fun g => e8 (n8.mp g))]
    split <;> rfl
end
