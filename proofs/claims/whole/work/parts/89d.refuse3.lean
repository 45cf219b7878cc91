/-! Refusals of the reference -/
section
variable {M N : am_M} {t : ty_T} {pr : Nat → Nat} {bg : Nat}
theorem rs_150 {j : Nat} (hj : j < 11) (N : am_M) : fd_150 (nI j) N = some (pu_b (st_uy j), N) := by
  rcases lt11 hj with rfl | rfl | rfl | rfl | rfl | rfl | rfl | rfl | rfl | rfl | rfl <;> rfl
theorem rs_149 {j : Nat} (hj : j < 11) (N : am_M) : fd_149 (nI j) N = some (pu_b (st_uz j), N) := by
  rcases lt11 hj with rfl | rfl | rfl | rfl | rfl | rfl | rfl | rfl | rfl | rfl | rfl <;> rfl
theorem rs_re {op x y f z : Int32} {j x' y' f' z' : Nat} (H : rf_Y N t) (hw : ty_w t) (hpr : ∀ b, b < bg → N 102 b = nI (pr b) ∧ pr b < 6) (hbg6 : bg ≤ 6) (his : sm_is op x y f z j x' y' f' z') (hrg : sm_rg bg j x' y' f' z') : (if op = (9 : Int32) then (if (N 96 14) = (0 : Int32) then (fd_146_60 op y f z N) else (some ((4 : Int32), N))) else (fd_146_60 op y f z N)) = some (nI (st_re pr t j y' f' z'), N) := by
  obtain ⟨rfl, ix, iy, iff, iz⟩ := his
  obtain ⟨rj, rx, ry, r8, rf, rz⟩ := hrg
  have c6 : ∀ {v c : Nat}, ty_c t v = some c → c < 6 := fun h => ty_c6 hw h
  have nj : ∀ k, k < 11 → (nI j = nI k ↔ j = k) := fun k hk => en_nI (by omega) (by omega)
  have lo6 : ∀ v, v < 6 → ty_c t v = t.1 v ∧ ty_h t v = t.2.1 v := fun v hv => by
    unfold ty_c ty_h; rw [if_neg (by omega), if_neg (by omega)]; exact ⟨rfl, rfl⟩
  have em : ∀ v, v < 6 → (N 105 v = -1 ↔ ty_c t v = none) := fun v hv => by
    rw [(H.1 v hv).1, (lo6 v hv).1]
    exact en_o_m1 (fun c hc => by have := hw.1 v c hc; omega)
  -- the capability that y has, if it is used
  have a333 : ∀ s : Nat, s < 6 → ∀ x8 : Int32, (j = 8 → x8 = nI s) → fd_146_333 (nI j) y x8 N = some (nI (if j = 8 then (if st_su s (pr y') = true then 0 else 9) else 0), N) := by
    intro s hs x8 h8
    unfold fd_146_333
    by_cases e : j = 8
    · have hb := r8 e
      obtain ⟨p1, p2⟩ := hpr y' hb
      rw [if_pos (show nI j = (8 : Int32) from (nj 8 (by decide)).mpr e), if_pos e, iy (Or.inr e), h8 e]
      simp (disch := omega) only [pu_cl, pu_g2]
      rw [p1, rs_152 hs p2, Option.bind_some, pu_b_if]
      cases st_su s (pr y') <;> rfl
    · rw [if_neg (show ¬ nI j = (8 : Int32) from fun g => e ((nj 8 (by decide)).mp g)), if_neg e]; rfl
  have a290 : ∀ (cy s : Nat) (x7 x8 : Int32), (j = 4 ∨ j = 5 → x7 = nI cy ∧ cy < 3) → s < 6 → (j = 4 ∨ j = 5 ∨ j = 8 → x8 = nI s) → fd_146_290 (nI j) y f x7 x8 N = some (nI (if j = 4 ∨ j = 5 then (if st_sa s cy = true then (if st_su s f' = true then 0 else 9) else 8) else if j = 8 then (if st_su s (pr y') = true then 0 else 9) else 0), N) := by
    intro cy s x7 x8 h7 hs h8
    unfold fd_146_290 fd_146_300 fd_146_313 fd_146_323
    by_cases e45 : j = 4 ∨ j = 5
    · obtain ⟨h7a, h7b⟩ := h7 e45
      have uf : st_uf j = true := by rcases e45 with e | e <;> rw [e] <;> rfl
      have both : ∀ X : Option (Int32 × am_M), (if nI j = (4 : Int32) then X else if nI j = (5 : Int32) then X else fd_146_333 (nI j) y x8 N) = X := by
        intro X
        rcases e45 with e | e
        · rw [if_pos (show nI j = (4 : Int32) from (nj 4 (by decide)).mpr e)]
        · rw [if_neg (show ¬ nI j = (4 : Int32) from fun g => by have := (nj 4 (by decide)).mp g; omega), if_pos (show nI j = (5 : Int32) from (nj 5 (by decide)).mpr e)]
      have both2 : ∀ X Y : Option (Int32 × am_M), (if nI j = (4 : Int32) then X else if nI j = (5 : Int32) then X else Y) = X := by
        intro X Y
        rcases e45 with e | e
        · rw [if_pos (show nI j = (4 : Int32) from (nj 4 (by decide)).mpr e)]
        · rw [if_neg (show ¬ nI j = (4 : Int32) from fun g => by have := (nj 4 (by decide)).mp g; omega), if_pos (show nI j = (5 : Int32) from (nj 5 (by decide)).mpr e)]
      rw [both2, h7a, h8 (by omega), rs_151 hs h7b, Option.bind_some, pu_b_if, if_pos e45]
      cases st_sa s cy with
      | true =>
        rw [if_pos rfl, if_pos rfl]
        simp only []
        rw [both2, iff uf, rs_152 hs (rf uf), Option.bind_some, pu_b_if]
        cases st_su s f' with
        | true =>
          rw [if_pos rfl, if_pos rfl]
          have := a333 s hs (nI s) (fun _ => rfl)
          rw [if_neg (show ¬ j = 8 by omega)] at this
          exact this
        | false => rfl
      | false => rfl
    · have n4 : ¬ nI j = (4 : Int32) := fun g => by have := (nj 4 (by decide)).mp g; omega
      have n5 : ¬ nI j = (5 : Int32) := fun g => by have := (nj 5 (by decide)).mp g; omega
      rw [if_neg n4, if_neg n5, if_neg n4, if_neg n5, if_neg e45]
      exact a333 s hs x8 (fun e => h8 (by omega))
  -- the tail
  have a201 : (st_uy j = true → ty_c t y' ≠ none) → (st_uz j = true → ty_c t z' ≠ none) → fd_146_201 (nI j) y f z N = some (nI (st_tl pr j ((ty_c t y').getD 0) ((ty_c t z').getD 0) y' f'), N) := by
    intro g1 g2
    have gz : ∃ cz, (ty_c t z').getD 0 = cz ∧ (st_uz j = true → ty_c t z' = some cz) ∧ cz < 6 := by
      cases hc : ty_c t z' with
      | none => exact ⟨0, rfl, fun u => absurd hc (g2 u), by decide⟩
      | some cz => exact ⟨cz, rfl, fun _ => rfl, c6 hc⟩
    obtain ⟨cz, ez, uzc, cz6⟩ := gz
    rw [ez]
    -- from the source on
    have a258 : ∀ (cy : Nat) (x7 : Int32), (j = 4 ∨ j = 5 → x7 = nI cy ∧ cy < 3) → fd_146_258 (nI j) y f z x7 N = some (nI (if j = 4 then (if st_sa (gh_al cz) cy = true then (if st_su (gh_al cz) f' = true then 0 else 9) else 8) else if j = 5 then (if st_sa cz cy = true then (if st_su cz f' = true then 0 else 9) else 8) else if j = 8 then (if st_su cz (pr y') = true then 0 else 9) else 0), N) := by
      intro cy x7 h7
      unfold fd_146_258 fd_146_276
      rw [rs_149 rj, Option.bind_some, pu_b_if]
      by_cases u : st_uz j = true
      · rw [if_pos u, iz u]
        have z6 := rz u
        simp (disch := omega) only [pu_cl, pu_g2]
        have e105 : N 105 z' = nI cz := by rw [(H.1 z' z6).1, ← (lo6 z' z6).1, uzc u]; rfl
        rw [e105]
        by_cases e4 : j = 4
        · rw [if_pos (show nI j = (4 : Int32) from (nj 4 (by decide)).mpr e4), rs_138 cz6, Option.bind_some, a290 cy (gh_al cz) x7 _ h7 (gh_al6 cz6) (fun _ => rfl), if_pos (show j = 4 ∨ j = 5 from Or.inl e4), if_pos e4]
        · rw [if_neg (show ¬ nI j = (4 : Int32) from fun g => e4 ((nj 4 (by decide)).mp g)), a290 cy cz x7 _ h7 cz6 (fun _ => rfl), if_neg e4]
          by_cases e5 : j = 5
          · rw [if_pos (show j = 4 ∨ j = 5 from Or.inr e5), if_pos e5]
          · rw [if_neg (show ¬ (j = 4 ∨ j = 5) by omega), if_neg e5]
      · have h458 : ¬ (j = 4 ∨ j = 5 ∨ j = 8) := by
          rintro (e | e | e) <;> exact u (by rw [e]; rfl)
        rw [if_neg u, if_neg (show ¬ nI j = (4 : Int32) from fun g => h458 (Or.inl ((nj 4 (by decide)).mp g))), a290 cy 0 x7 _ h7 (by decide) (fun e => absurd e h458), if_neg (show ¬ (j = 4 ∨ j = 5) by omega), if_neg (show ¬ j = 8 by omega), if_neg (show ¬ j = 4 by omega), if_neg (show ¬ j = 5 by omega), if_neg (show ¬ j = 8 by omega)]
    -- from the capability of y on
    have a217 : ∀ (cy : Nat) (x7 : Int32), cy < 6 → (st_uy j = true → x7 = nI cy) → fd_146_217 (nI j) y f z x7 N = some (nI (st_tl pr j cy cz y' f'), N) := by
      intro cy x7 c6' h7
      unfold fd_146_217 fd_146_230 fd_146_236 st_tl
      by_cases e37 : j = 3 ∨ j = 7
      · have u : st_uy j = true := by rcases e37 with e | e <;> rw [e] <;> rfl
        have n46 : fd_146_258 (nI j) y f z x7 N = some (nI 0, N) := by
          have := a258 0 x7 (fun e => by omega)
          rw [if_neg (show ¬ j = 4 by omega), if_neg (show ¬ j = 5 by omega), if_neg (show ¬ j = 8 by omega)] at this; exact this
        have e5 : x7 = (5 : Int32) ↔ cy = 5 := by rw [h7 u]; exact en_nI (t := 5) (by omega) (by decide)
        have core : (if x7 = (5 : Int32) then some ((7 : Int32), N) else if nI j < (4 : Int32) then fd_146_258 (nI j) y f z x7 N else if (6 : Int32) < nI j then fd_146_258 (nI j) y f z x7 N else (fd_144 x7 N).bind fun q3 => if q3.1 = (0 : Int32) then some ((7 : Int32), q3.2) else fd_146_258 (nI j) y f z x7 q3.2) = some (nI (if cy < 5 then 0 else 7), N) := by
          by_cases c : cy = 5
          · rw [if_pos (e5.mpr c), if_neg (show ¬ cy < 5 by omega)]; rfl
          · rw [if_neg (fun g => c (e5.mp g)), if_pos (show cy < 5 by omega)]
            rcases e37 with e | e
            · rw [if_pos (show nI j < (4 : Int32) from (pu_lt (b := 4) (by omega) (by decide)).mpr (by omega)), n46]
            · rw [if_neg (show ¬ nI j < (4 : Int32) from fun g => by have := (pu_lt (b := 4) (by omega) (by decide)).mp g; omega), if_pos (show (6 : Int32) < nI j from (pu_lt (a := 6) (by decide) (by omega)).mpr (by omega)), n46]
        rw [if_pos e37]
        rcases e37 with e | e
        · rw [if_pos (show nI j = (3 : Int32) from (nj 3 (by decide)).mpr e)]; exact core
        · rw [if_neg (show ¬ nI j = (3 : Int32) from fun g => by have := (nj 3 (by decide)).mp g; omega), if_pos (show nI j = (7 : Int32) from (nj 7 (by decide)).mpr e)]; exact core
      · rw [if_neg (show ¬ nI j = (3 : Int32) from fun g => by have := (nj 3 (by decide)).mp g; omega), if_neg (show ¬ nI j = (7 : Int32) from fun g => by have := (nj 7 (by decide)).mp g; omega), if_neg e37]
        by_cases e46 : 4 ≤ j ∧ j ≤ 6
        · have u : st_uy j = true := by rcases (show j = 4 ∨ j = 5 ∨ j = 6 by omega) with e | e | e <;> rw [e] <;> rfl
          rw [if_neg (show ¬ nI j < (4 : Int32) from fun g => by have := (pu_lt (b := 4) (by omega) (by decide)).mp g; omega), if_neg (show ¬ (6 : Int32) < nI j from fun g => by have := (pu_lt (a := 6) (by decide) (by omega)).mp g; omega), h7 u, rs_144 c6', Option.bind_some, pu_b_if]
          by_cases c3 : cy < 3
          · rw [if_pos (decide_eq_true c3)]
            simp only []
            rw [a258 cy (nI cy) (fun _ => ⟨rfl, c3⟩), if_pos c3]
            by_cases e4 : j = 4
            · rw [if_pos e4, if_neg (show ¬ j = 6 by omega), if_pos e4, if_pos c3]
            · rw [if_neg e4]
              by_cases e5 : j = 5
              · rw [if_pos e5, if_neg (show ¬ j = 6 by omega), if_neg e4, if_pos e5, if_pos c3]
              · rw [if_neg e5, if_neg (show ¬ j = 8 by omega), if_pos (show j = 6 by omega)]
          · rw [if_neg (show ¬ decide (cy < 3) = true by simpa using c3)]
            by_cases e6 : j = 6
            · rw [if_pos e6, if_neg c3]; rfl
            · rw [if_neg e6]
              by_cases e4 : j = 4
              · rw [if_pos e4, if_neg c3]; rfl
              · rw [if_neg e4, if_pos (show j = 5 by omega), if_neg c3]; rfl
        · have n258 : fd_146_258 (nI j) y f z x7 N = some (nI (if j = 8 then (if st_su cz (pr y') = true then 0 else 9) else 0), N) := by
            have := a258 0 x7 (fun e => by omega)
            rw [if_neg (show ¬ j = 4 by omega), if_neg (show ¬ j = 5 by omega)] at this; exact this
          rw [if_neg (show ¬ j = 6 by omega), if_neg (show ¬ j = 4 by omega), if_neg (show ¬ j = 5 by omega)]
          by_cases c : j < 4
          · rw [if_pos (show nI j < (4 : Int32) from (pu_lt (b := 4) (by omega) (by decide)).mpr c), n258]
          · rw [if_neg (show ¬ nI j < (4 : Int32) from fun g => c ((pu_lt (b := 4) (by omega) (by decide)).mp g)), if_pos (show (6 : Int32) < nI j from (pu_lt (a := 6) (by decide) (by omega)).mpr (by omega)), n258]
    unfold fd_146_201
    rw [rs_150 rj, Option.bind_some, pu_b_if]
    by_cases u : st_uy j = true
    · rw [if_pos u]
      cases hc : ty_c t y' with
      | none => exact absurd hc (g1 u)
      | some cy =>
        have e139 : fd_139 y N = some (nI cy, N) := by
          unfold fd_139
          rw [iy (Or.inl u)]
          by_cases e6 : y' = 6
          · rw [if_pos (show nI y' = (6 : Int32) by rw [e6]; rfl)]
            unfold ty_c at hc; rw [if_pos e6] at hc; injection hc with hc; rw [← hc]; rfl
          · have h7 := (ry u).1
            rw [if_neg (show ¬ nI y' = (6 : Int32) from fun g => e6 ((pu_e6 (by omega)).mp g))]
            simp (disch := omega) only [pu_cl, pu_g2]
            rw [(H.1 y' (by omega)).1, ← (lo6 y' (by omega)).1, hc]; rfl
        simp only []
        rw [e139, Option.bind_some]
        exact a217 cy (nI cy) (c6 hc) (fun _ => rfl)
    · rw [if_neg u, a217 0 (-1) (by decide) (fun g => absurd g u)]
      have : ∀ c c' : Nat, st_tl pr j c cz y' f' = st_tl pr j c' cz y' f' := by
        intro c c'
        have hn : ¬ (j = 3 ∨ j = 7) ∧ ¬ j = 6 ∧ ¬ j = 4 ∧ ¬ j = 5 := by
          refine ⟨?_, ?_, ?_, ?_⟩
          · rintro (e | e) <;> exact u (by rw [e]; rfl)
          · intro e; exact u (by rw [e]; rfl)
          · intro e; exact u (by rw [e]; rfl)
          · intro e; exact u (by rw [e]; rfl)
        unfold st_tl
        rw [if_neg hn.1, if_neg hn.2.1, if_neg hn.2.2.1, if_neg hn.2.2.2, if_neg hn.1, if_neg hn.2.1, if_neg hn.2.2.1, if_neg hn.2.2.2]
      rw [this 0 ((ty_c t y').getD 0)]
  have fin : st_re pr t j y' f' z' = st_fr t j y' z' (st_tl pr j ((ty_c t y').getD 0) ((ty_c t z').getD 0) y' f') := rfl
  rw [fin]
  generalize st_tl pr j ((ty_c t y').getD 0) ((ty_c t z').getD 0) y' f' = R at a201 ⊢
  have b150 := rs_150 rj N
  have b149 := rs_149 rj N
  have a187 : (st_uy j = true → ty_c t y' ≠ none) → (st_uz j = true → ty_c t z' ≠ none) → fd_146_187 (nI j) y f z N = some (nI (if j = 5 ∧ y' = z' then 6 else R), N) := by
    intro g1 g2
    unfold fd_146_187
    rw [a201 g1 g2]
    by_cases e : j = 5
    · have uy : st_uy j = true := by rw [e]; rfl
      have uz : st_uz j = true := by rw [e]; rfl
      rw [if_pos (show nI j = (5 : Int32) from (nj 5 (by decide)).mpr e), iy (Or.inl uy), iz uz]
      have h1 := (ry uy).1
      have h2 := rz uz
      by_cases c : y' = z'
      · rw [if_pos (by rw [c]), if_pos ⟨e, c⟩]; rfl
      · rw [if_neg (fun g => c ((en_nI (by omega) (by omega)).mp g)), if_neg (fun g => c g.2)]
    · rw [if_neg (show ¬ nI j = (5 : Int32) from fun g => e ((nj 5 (by decide)).mp g)), if_neg (fun g => e g.1)]
  have a169 : (st_uy j = true → ty_c t y' ≠ none) → fd_146_169 (nI j) y f z N = some (nI (if st_uz j = true ∧ ty_c t z' = none then 6 else if j = 5 ∧ y' = z' then 6 else R), N) := by
    intro g1
    unfold fd_146_169
    rw [b149, Option.bind_some, pu_b_if]
    by_cases u : st_uz j = true
    · have z6 := rz u
      rw [if_pos u, iz u]
      simp (disch := omega) only [pu_cl, pu_g2]
      by_cases c : ty_c t z' = none
      · rw [if_pos ((em z' z6).mpr c), if_pos ⟨u, c⟩]; rfl
      · rw [if_neg (fun g => c ((em z' z6).mp g)), if_neg (show ¬ (st_uz j = true ∧ ty_c t z' = none) from fun g => c g.2)]
        have := a187 g1 (fun _ => c)
        rw [iz u] at this; exact this
    · rw [if_neg u, if_neg (show ¬ (st_uz j = true ∧ ty_c t z' = none) from fun g => u g.1), a187 g1 (fun g => absurd g u)]
  -- whether y is the actor itself
  have a147 : ∀ x6 : Int32, (st_uy j = true → (x6 = 0 ↔ y' ≠ 6)) → fd_146_147 (nI j) y f z x6 N = some (nI (if st_uy j = true ∧ ty_c t y' = none then 6 else if st_uz j = true ∧ ty_c t z' = none then 6 else if j = 5 ∧ y' = z' then 6 else R), N) := by
    intro x6 h6
    unfold fd_146_147
    rw [b150, Option.bind_some, pu_b_if]
    by_cases u : st_uy j = true
    · rw [if_pos u]
      have h7 := (ry u).1
      by_cases c6 : y' = 6
      · rw [if_neg (fun g => (h6 u).mp g c6)]
        have ne : ty_c t y' ≠ none := by unfold ty_c; rw [if_pos c6]; simp
        rw [if_neg (show ¬ (st_uy j = true ∧ ty_c t y' = none) from fun g => ne g.2), a169 (fun _ => ne)]
      · rw [if_pos ((h6 u).mpr c6), iy (Or.inl u)]
        simp (disch := omega) only [pu_cl, pu_g2]
        by_cases c : ty_c t y' = none
        · rw [if_pos ((em y' (by omega)).mpr c), if_pos ⟨u, c⟩]; rfl
        · rw [if_neg (fun g => c ((em y' (by omega)).mp g)), if_neg (show ¬ (st_uy j = true ∧ ty_c t y' = none) from fun g => c g.2)]
          have := a169 (fun _ => c)
          rw [iy (Or.inl u)] at this; exact this
    · rw [if_neg u, if_neg (show ¬ (st_uy j = true ∧ ty_c t y' = none) from fun g => u g.1), a169 (fun g => absurd g u)]
  have a128 : ∀ x6 : Int32, (st_uy j = true → (x6 = 0 ↔ y' ≠ 6)) → fd_146_128 (nI j) y f z x6 N = some (nI (if st_uz j = true ∧ ty_h t z' = true then 5 else if st_uy j = true ∧ ty_c t y' = none then 6 else if st_uz j = true ∧ ty_c t z' = none then 6 else if j = 5 ∧ y' = z' then 6 else R), N) := by
    intro x6 h6
    unfold fd_146_128
    rw [b149, Option.bind_some, pu_b_if]
    by_cases u : st_uz j = true
    · have z6 := rz u
      rw [if_pos u, iz u]
      simp (disch := omega) only [pu_cl, pu_g2]
      rw [(H.1 z' z6).2.1, ← (lo6 z' z6).2, pu_b_if]
      by_cases c : ty_h t z' = true
      · rw [if_pos c, if_pos ⟨u, c⟩]; rfl
      · rw [if_neg c, if_neg (show ¬ (st_uz j = true ∧ ty_h t z' = true) from fun g => c g.2)]
        have := a147 x6 h6
        rw [iz u] at this; exact this
    · rw [if_neg u, if_neg (show ¬ (st_uz j = true ∧ ty_h t z' = true) from fun g => u g.1), a147 x6 h6]
  have a107 : ∀ x6 : Int32, (st_uy j = true → (x6 = 0 ↔ y' ≠ 6)) → (st_uy j = true → y' = 6 → t.2.2.2 = false) → fd_146_107 (nI j) y f z x6 N = some (nI (if st_uy j = true ∧ ty_h t y' = true then 5 else if st_uz j = true ∧ ty_h t z' = true then 5 else if st_uy j = true ∧ ty_c t y' = none then 6 else if st_uz j = true ∧ ty_c t z' = none then 6 else if j = 5 ∧ y' = z' then 6 else R), N) := by
    intro x6 h6 hb
    unfold fd_146_107
    rw [b150, Option.bind_some, pu_b_if]
    by_cases u : st_uy j = true
    · rw [if_pos u]
      have h7 := (ry u).1
      by_cases c6 : y' = 6
      · rw [if_neg (fun g => (h6 u).mp g c6)]
        have ne : ¬ ty_h t y' = true := by unfold ty_h; rw [if_pos c6, hb u c6]; simp
        rw [if_neg (show ¬ (st_uy j = true ∧ ty_h t y' = true) from fun g => ne g.2), a128 x6 h6]
      · rw [if_pos ((h6 u).mpr c6), iy (Or.inl u)]
        simp (disch := omega) only [pu_cl, pu_g2]
        rw [(H.1 y' (by omega)).2.1, ← (lo6 y' (by omega)).2, pu_b_if]
        by_cases c : ty_h t y' = true
        · rw [if_pos c, if_pos ⟨u, c⟩]; rfl
        · rw [if_neg c, if_neg (show ¬ (st_uy j = true ∧ ty_h t y' = true) from fun g => c g.2)]
          have := a128 x6 h6
          rw [iy (Or.inl u)] at this; exact this
    · rw [if_neg u, if_neg (show ¬ (st_uy j = true ∧ ty_h t y' = true) from fun g => u g.1), a128 x6 h6]
  have a75 : fd_146_75 (nI j) y f z N = some (nI (if st_uy j = true ∧ ty_h t y' = true then 5 else if st_uz j = true ∧ ty_h t z' = true then 5 else if st_uy j = true ∧ ty_c t y' = none then 6 else if st_uz j = true ∧ ty_c t z' = none then 6 else if j = 5 ∧ y' = z' then 6 else R), N) := by
    unfold fd_146_75 fd_146_92 fd_146_93
    rw [b150, Option.bind_some, pu_b_if]
    by_cases u : st_uy j = true
    · rw [if_pos u]
      have h7 := (ry u).1
      by_cases c6 : y' = 6
      · rw [if_pos (show y = (6 : Int32) by rw [iy (Or.inl u), c6]; rfl), if_neg pu_10]
        simp only [H.2, pu_b_if]
        cases hb : t.2.2.2 with
        | true =>
          rw [if_pos rfl, if_pos ⟨u, by unfold ty_h; rw [if_pos c6]; exact hb⟩]; rfl
        | false =>
          rw [if_neg (by simp)]
          exact a107 1 (fun _ => ⟨fun g => absurd g pu_10, fun g => absurd c6 g⟩) (fun _ _ => hb)
      · rw [if_neg (show ¬ y = (6 : Int32) by rw [iy (Or.inl u)]; exact fun g => c6 ((pu_e6 (by omega)).mp g)), if_pos rfl]
        exact a107 0 (fun _ => ⟨fun _ => c6, fun _ => rfl⟩) (fun _ g => absurd g c6)
    · rw [if_neg u, if_pos rfl]
      exact a107 0 (fun g => absurd g u) (fun g => absurd g u)
  unfold fd_146_60 st_fr
  rw [H.2, pu_b_if, pu_b_if, a75]
  generalize (if st_uy j = true ∧ ty_h t y' = true then 5 else if st_uz j = true ∧ ty_h t z' = true then 5 else if st_uy j = true ∧ ty_c t y' = none then 6 else if st_uz j = true ∧ ty_c t z' = none then 6 else if j = 5 ∧ y' = z' then 6 else R) = X
  by_cases e9 : j = 9
  · rw [if_pos (show nI j = (9 : Int32) from (nj 9 (by decide)).mpr e9)]
    have e10 : ¬ nI j = (10 : Int32) := fun g => by have := (nj 10 (by decide)).mp g; omega
    cases hb : t.2.2.2 with
    | true => rw [if_pos rfl, if_pos ⟨e9, rfl⟩]; rfl
    | false => rw [if_neg (by simp), if_neg e10, if_neg (by simp), if_neg (by omega)]
  · rw [if_neg (show ¬ nI j = (9 : Int32) from fun g => e9 ((nj 9 (by decide)).mp g)), if_neg (show ¬ (j = 9 ∧ t.2.2.2 = true) from fun g => e9 g.1)]
    by_cases e10 : j = 10
    · rw [if_pos (show nI j = (10 : Int32) from (nj 10 (by decide)).mpr e10)]
      cases hb : t.2.2.2 with
      | true => rw [if_pos rfl, if_neg (by simp)]
      | false => rw [if_neg (by simp), if_pos ⟨e10, rfl⟩]; rfl
    · rw [if_neg (show ¬ nI j = (10 : Int32) from fun g => e10 ((nj 10 (by decide)).mp g)), if_neg (show ¬ (j = 10 ∧ t.2.2.2 = false) from fun g => e10 g.1)]
end
