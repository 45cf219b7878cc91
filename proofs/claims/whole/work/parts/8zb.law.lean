/-! The law's loop -/
theorem un_0_28 (L : Nat) (xs : Nat → Int32) (f : Nat) (x3 : Int32) (M : am_M) : fd_0_28 L xs (f + 1) x3 M = (if ((Int32.ofNat L) - (6 : Int32)) < x3 then (some ((1 : Int32), M)) else (if x3 < 0 ∨ L ≤ x3.toNatClampNeg then none else if ((xs x3.toNatClampNeg) &&& (31 : Int32)) = (0 : Int32) then (if (x3 + (1 : Int32)) < 0 ∨ L ≤ (x3 + (1 : Int32)).toNatClampNeg then none else (fd_12 (xs (x3 + (1 : Int32)).toNatClampNeg) M).bind fun q5 => if (x3 + (1 : Int32)) < 0 ∨ L ≤ (x3 + (1 : Int32)).toNatClampNeg then none else (fd_131 (xs (x3 + (1 : Int32)).toNatClampNeg) q5.2).bind fun q8 => if q5.1 = q8.1 then (fd_0_592 L xs (fd_0_28 L xs f) x3 q8.2) else (some ((0 : Int32), q8.2))) else if ((xs x3.toNatClampNeg) &&& (31 : Int32)) = (1 : Int32) then (if (x3 + (1 : Int32)) < 0 ∨ L ≤ (x3 + (1 : Int32)).toNatClampNeg then none else if (x3 + (2 : Int32)) < 0 ∨ L ≤ (x3 + (2 : Int32)).toNatClampNeg then none else if (x3 + (3 : Int32)) < 0 ∨ L ≤ (x3 + (3 : Int32)).toNatClampNeg then none else if (x3 + (4 : Int32)) < 0 ∨ L ≤ (x3 + (4 : Int32)).toNatClampNeg then none else if (x3 + (5 : Int32)) < 0 ∨ L ≤ (x3 + (5 : Int32)).toNatClampNeg then none else (fd_21 (xs (x3 + (1 : Int32)).toNatClampNeg) (xs (x3 + (2 : Int32)).toNatClampNeg) (xs (x3 + (3 : Int32)).toNatClampNeg) (xs (x3 + (4 : Int32)).toNatClampNeg) (xs (x3 + (5 : Int32)).toNatClampNeg) M).bind fun q17 => if (x3 + (1 : Int32)) < 0 ∨ L ≤ (x3 + (1 : Int32)).toNatClampNeg then none else if (x3 + (2 : Int32)) < 0 ∨ L ≤ (x3 + (2 : Int32)).toNatClampNeg then none else if (x3 + (3 : Int32)) < 0 ∨ L ≤ (x3 + (3 : Int32)).toNatClampNeg then none else if (x3 + (4 : Int32)) < 0 ∨ L ≤ (x3 + (4 : Int32)).toNatClampNeg then none else if (x3 + (5 : Int32)) < 0 ∨ L ≤ (x3 + (5 : Int32)).toNatClampNeg then none else (fd_145 (xs (x3 + (1 : Int32)).toNatClampNeg) (xs (x3 + (2 : Int32)).toNatClampNeg) (xs (x3 + (3 : Int32)).toNatClampNeg) (xs (x3 + (4 : Int32)).toNatClampNeg) (xs (x3 + (5 : Int32)).toNatClampNeg) q17.2).bind fun q24 => if q17.1 = q24.1 then (fd_0_592 L xs (fd_0_28 L xs f) x3 q24.2) else (some ((0 : Int32), q24.2))) else if ((xs x3.toNatClampNeg) &&& (31 : Int32)) = (2 : Int32) then ((fd_54 M).bind fun q28 => (fd_134 q28.2).bind fun q30 => if q28.1 = q30.1 then (fd_0_592 L xs (fd_0_28 L xs f) x3 q30.2) else (some ((0 : Int32), q30.2))) else if ((xs x3.toNatClampNeg) &&& (31 : Int32)) = (3 : Int32) then ((fd_57 M).bind fun q34 => (fd_133 q34.2).bind fun q36 => if q34.1 = q36.1 then (fd_0_592 L xs (fd_0_28 L xs f) x3 q36.2) else (some ((0 : Int32), q36.2))) else if ((xs x3.toNatClampNeg) &&& (31 : Int32)) = (4 : Int32) then (if (x3 + (1 : Int32)) < 0 ∨ L ≤ (x3 + (1 : Int32)).toNatClampNeg then none else (fd_59 (xs (x3 + (1 : Int32)).toNatClampNeg) M).bind fun q41 => if (x3 + (1 : Int32)) < 0 ∨ L ≤ (x3 + (1 : Int32)).toNatClampNeg then none else (fd_153 (xs (x3 + (1 : Int32)).toNatClampNeg) q41.2).bind fun q44 => if q41.1 = q44.1 then (fd_0_592 L xs (fd_0_28 L xs f) x3 q44.2) else (some ((0 : Int32), q44.2))) else if ((xs x3.toNatClampNeg) &&& (31 : Int32)) = (5 : Int32) then (if (x3 + (1 : Int32)) < 0 ∨ L ≤ (x3 + (1 : Int32)).toNatClampNeg then none else if (x3 + (2 : Int32)) < 0 ∨ L ≤ (x3 + (2 : Int32)).toNatClampNeg then none else (fd_62 (xs (x3 + (1 : Int32)).toNatClampNeg) (xs (x3 + (2 : Int32)).toNatClampNeg) M).bind fun q50 => if (x3 + (1 : Int32)) < 0 ∨ L ≤ (x3 + (1 : Int32)).toNatClampNeg then none else if (x3 + (2 : Int32)) < 0 ∨ L ≤ (x3 + (2 : Int32)).toNatClampNeg then none else (fd_154 (xs (x3 + (1 : Int32)).toNatClampNeg) (xs (x3 + (2 : Int32)).toNatClampNeg) q50.2).bind fun q54 => if q50.1 = q54.1 then (fd_0_592 L xs (fd_0_28 L xs f) x3 q54.2) else (some ((0 : Int32), q54.2))) else if ((xs x3.toNatClampNeg) &&& (31 : Int32)) = (6 : Int32) then (if (x3 + (1 : Int32)) < 0 ∨ L ≤ (x3 + (1 : Int32)).toNatClampNeg then none else (fd_67 (xs (x3 + (1 : Int32)).toNatClampNeg) M).bind fun q59 => if (x3 + (1 : Int32)) < 0 ∨ L ≤ (x3 + (1 : Int32)).toNatClampNeg then none else (fd_156 (xs (x3 + (1 : Int32)).toNatClampNeg) q59.2).bind fun q62 => if q59.1 = q62.1 then (fd_0_592 L xs (fd_0_28 L xs f) x3 q62.2) else (some ((0 : Int32), q62.2))) else if ((xs x3.toNatClampNeg) &&& (31 : Int32)) = (7 : Int32) then (if (x3 + (1 : Int32)) < 0 ∨ L ≤ (x3 + (1 : Int32)).toNatClampNeg then none else (fd_103 (xs (x3 + (1 : Int32)).toNatClampNeg) M).bind fun q67 => if (x3 + (1 : Int32)) < 0 ∨ L ≤ (x3 + (1 : Int32)).toNatClampNeg then none else (fd_168 (xs (x3 + (1 : Int32)).toNatClampNeg) q67.2).bind fun q70 => if q67.1 = q70.1 then (fd_0_592 L xs (fd_0_28 L xs f) x3 q70.2) else (some ((0 : Int32), q70.2))) else if ((xs x3.toNatClampNeg) &&& (31 : Int32)) = (8 : Int32) then (if (x3 + (1 : Int32)) < 0 ∨ L ≤ (x3 + (1 : Int32)).toNatClampNeg then none else (fd_110 (xs (x3 + (1 : Int32)).toNatClampNeg) M).bind fun q75 => if (x3 + (1 : Int32)) < 0 ∨ L ≤ (x3 + (1 : Int32)).toNatClampNeg then none else (fd_171 (xs (x3 + (1 : Int32)).toNatClampNeg) q75.2).bind fun q78 => if q75.1 = q78.1 then (fd_0_592 L xs (fd_0_28 L xs f) x3 q78.2) else (some ((0 : Int32), q78.2))) else if ((xs x3.toNatClampNeg) &&& (31 : Int32)) = (9 : Int32) then (if (x3 + (1 : Int32)) < 0 ∨ L ≤ (x3 + (1 : Int32)).toNatClampNeg then none else (fd_112 (xs (x3 + (1 : Int32)).toNatClampNeg) M).bind fun q83 => if (x3 + (1 : Int32)) < 0 ∨ L ≤ (x3 + (1 : Int32)).toNatClampNeg then none else (fd_172 (xs (x3 + (1 : Int32)).toNatClampNeg) q83.2).bind fun q86 => if q83.1 = q86.1 then (fd_0_592 L xs (fd_0_28 L xs f) x3 q86.2) else (some ((0 : Int32), q86.2))) else if ((xs x3.toNatClampNeg) &&& (31 : Int32)) = (10 : Int32) then (if (x3 + (1 : Int32)) < 0 ∨ L ≤ (x3 + (1 : Int32)).toNatClampNeg then none else (fd_113 (xs (x3 + (1 : Int32)).toNatClampNeg) M).bind fun q91 => if (x3 + (1 : Int32)) < 0 ∨ L ≤ (x3 + (1 : Int32)).toNatClampNeg then none else (fd_174 (xs (x3 + (1 : Int32)).toNatClampNeg) q91.2).bind fun q94 => if q91.1 = q94.1 then (fd_0_592 L xs (fd_0_28 L xs f) x3 q94.2) else (some ((0 : Int32), q94.2))) else if ((xs x3.toNatClampNeg) &&& (31 : Int32)) = (11 : Int32) then (if (x3 + (1 : Int32)) < 0 ∨ L ≤ (x3 + (1 : Int32)).toNatClampNeg then none else if (x3 + (2 : Int32)) < 0 ∨ L ≤ (x3 + (2 : Int32)).toNatClampNeg then none else (fd_114 (xs (x3 + (1 : Int32)).toNatClampNeg) (xs (x3 + (2 : Int32)).toNatClampNeg) M).bind fun q100 => if (x3 + (1 : Int32)) < 0 ∨ L ≤ (x3 + (1 : Int32)).toNatClampNeg then none else if (x3 + (2 : Int32)) < 0 ∨ L ≤ (x3 + (2 : Int32)).toNatClampNeg then none else (fd_175 (xs (x3 + (1 : Int32)).toNatClampNeg) (xs (x3 + (2 : Int32)).toNatClampNeg) q100.2).bind fun q104 => if q100.1 = q104.1 then (fd_0_592 L xs (fd_0_28 L xs f) x3 q104.2) else (some ((0 : Int32), q104.2))) else if ((xs x3.toNatClampNeg) &&& (31 : Int32)) = (12 : Int32) then (if (x3 + (1 : Int32)) < 0 ∨ L ≤ (x3 + (1 : Int32)).toNatClampNeg then none else if (x3 + (2 : Int32)) < 0 ∨ L ≤ (x3 + (2 : Int32)).toNatClampNeg then none else (fd_115 (xs (x3 + (1 : Int32)).toNatClampNeg) (xs (x3 + (2 : Int32)).toNatClampNeg) M).bind fun q110 => if (x3 + (1 : Int32)) < 0 ∨ L ≤ (x3 + (1 : Int32)).toNatClampNeg then none else if (x3 + (2 : Int32)) < 0 ∨ L ≤ (x3 + (2 : Int32)).toNatClampNeg then none else (fd_176 (xs (x3 + (1 : Int32)).toNatClampNeg) (xs (x3 + (2 : Int32)).toNatClampNeg) q110.2).bind fun q114 => if q110.1 = q114.1 then (fd_0_592 L xs (fd_0_28 L xs f) x3 q114.2) else (some ((0 : Int32), q114.2))) else if ((xs x3.toNatClampNeg) &&& (31 : Int32)) = (13 : Int32) then (if (x3 + (1 : Int32)) < 0 ∨ L ≤ (x3 + (1 : Int32)).toNatClampNeg then none else if (x3 + (2 : Int32)) < 0 ∨ L ≤ (x3 + (2 : Int32)).toNatClampNeg then none else (fd_116 (xs (x3 + (1 : Int32)).toNatClampNeg) (xs (x3 + (2 : Int32)).toNatClampNeg) M).bind fun q120 => if (x3 + (1 : Int32)) < 0 ∨ L ≤ (x3 + (1 : Int32)).toNatClampNeg then none else if (x3 + (2 : Int32)) < 0 ∨ L ≤ (x3 + (2 : Int32)).toNatClampNeg then none else (fd_177 (xs (x3 + (1 : Int32)).toNatClampNeg) (xs (x3 + (2 : Int32)).toNatClampNeg) q120.2).bind fun q124 => if q120.1 = q124.1 then (fd_0_592 L xs (fd_0_28 L xs f) x3 q124.2) else (some ((0 : Int32), q124.2))) else if ((xs x3.toNatClampNeg) &&& (31 : Int32)) = (14 : Int32) then (if (x3 + (1 : Int32)) < 0 ∨ L ≤ (x3 + (1 : Int32)).toNatClampNeg then none else if (x3 + (2 : Int32)) < 0 ∨ L ≤ (x3 + (2 : Int32)).toNatClampNeg then none else (fd_117 (xs (x3 + (1 : Int32)).toNatClampNeg) (xs (x3 + (2 : Int32)).toNatClampNeg) M).bind fun q130 => if (x3 + (1 : Int32)) < 0 ∨ L ≤ (x3 + (1 : Int32)).toNatClampNeg then none else if (x3 + (2 : Int32)) < 0 ∨ L ≤ (x3 + (2 : Int32)).toNatClampNeg then none else (fd_178 (xs (x3 + (1 : Int32)).toNatClampNeg) (xs (x3 + (2 : Int32)).toNatClampNeg) q130.2).bind fun q134 => if q130.1 = q134.1 then (fd_0_592 L xs (fd_0_28 L xs f) x3 q134.2) else (some ((0 : Int32), q134.2))) else if ((xs x3.toNatClampNeg) &&& (31 : Int32)) = (15 : Int32) then (if (x3 + (1 : Int32)) < 0 ∨ L ≤ (x3 + (1 : Int32)).toNatClampNeg then none else (fd_123 (xs (x3 + (1 : Int32)).toNatClampNeg) M).bind fun q139 => if (x3 + (1 : Int32)) < 0 ∨ L ≤ (x3 + (1 : Int32)).toNatClampNeg then none else (fd_180 (xs (x3 + (1 : Int32)).toNatClampNeg) q139.2).bind fun q142 => if q139.1 = q142.1 then (fd_0_592 L xs (fd_0_28 L xs f) x3 q142.2) else (some ((0 : Int32), q142.2))) else if ((xs x3.toNatClampNeg) &&& (31 : Int32)) = (16 : Int32) then ((fd_126 M).bind fun q146 => (fd_181 q146.2).bind fun q148 => if q146.1 = q148.1 then (fd_0_592 L xs (fd_0_28 L xs f) x3 q148.2) else (some ((0 : Int32), q148.2))) else if ((xs x3.toNatClampNeg) &&& (31 : Int32)) = (17 : Int32) then ((fd_127 M).bind fun q152 => (fd_182 q152.2).bind fun q154 => if q152.1 = q154.1 then (fd_0_592 L xs (fd_0_28 L xs f) x3 q154.2) else (some ((0 : Int32), q154.2))) else (fd_0_592 L xs (fd_0_28 L xs f) x3 M))) := rfl
theorem lw_g {L i : Nat} (h : i < L) (hL : L ≤ 3073) {α : Type} (x : Option α) : (if nI i < 0 ∨ L ≤ (nI i).toNatClampNeg then none else x) = x := if_neg (nI_in h (by omega))
theorem lw_h {L i : Nat} (h : i < L) (hL : L ≤ 3073) {α : Type} (x : Option α) : (if nI i < 0 ∨ L ≤ i then none else x) = x := if_neg (by rintro (g | g); exact nI_pos (by omega) g; omega)
theorem lw_c {i : Nat} (h : i < 4000) : (nI i).toNatClampNeg = i := nI_clamp (by omega)
theorem lw_s {L j : Nat} (hL : L ≤ 3073) (hj : j < 4000) : Int32.ofNat L - (6 : Int32) < nI j ↔ L < j + 6 := by
  have e : Int32.ofNat L - (6 : Int32) = en_i ((L : Int) - 6) := (en_i_sub (L : Int) 6).symm
  rw [e, show nI j = en_i (j : Int) from rfl, en_i_lt ⟨by omega, by omega⟩ ⟨by omega, by omega⟩]
  omega
theorem lw_n {F G : am_M → Option (Int32 × am_M)} {M M1 M2 : am_M} {r : Int32} {K : am_M → Option (Int32 × am_M)} (h1 : F M = some (r, M1)) (h2 : G M1 = some (r, M2)) : ((F M).bind fun q => (G q.2).bind fun q' => if q.1 = q'.1 then K q'.2 else some ((0 : Int32), q'.2)) = K M2 := by
  rw [h1, Option.bind_some, h2, Option.bind_some, if_pos rfl]
/-- what only reads -/
theorem jo_rd {F G : am_M → Option (Int32 × am_M)} {n T : Nat} {Bd : Int} {M : am_M} (H : jo_W n Bd T M M) (h : ∃ r, F M = some (r, M) ∧ G M = some (r, M)) : ∃ r M1 M2, F M = some (r, M1) ∧ G M1 = some (r, M2) ∧ jo_W n Bd T M2 M2 := by
  obtain ⟨r, h1, h2⟩ := h
  exact ⟨r, M, M, h1, h2, H⟩
theorem jo_loop {L : Nat} (xs : Nat → Int32) (hL : L ≤ 3073) {n : Nat} : ∀ (f j : Nat) (M : am_M), L < j + 6 * f → (0 < f ∨ j ≤ L) → j < 4000 → jo_W n (151 * (j : Int)) (10 * j) M M → ∃ M', fd_0_28 L xs f (nI j) M = some (1, M')
  | 0, j, M, h1, h2, _, _ => by omega
  | f + 1, j, M, h1, h2, hj, H => by
    rw [un_0_28]
    by_cases hs : L < j + 6
    · rw [if_pos ((lw_s hL hj).mpr hs)]; exact ⟨M, rfl⟩
    · rw [if_neg (fun g => hs ((lw_s hL hj).mp g)), lw_g (by omega) hL, lw_c (by omega)]
      simp only [show nI j + (1 : Int32) = nI (j + 1) from nI_add j 1, show nI j + (2 : Int32) = nI (j + 2) from nI_add j 2, show nI j + (3 : Int32) = nI (j + 3) from nI_add j 3, show nI j + (4 : Int32) = nI (j + 4) from nI_add j 4, show nI j + (5 : Int32) = nI (j + 5) from nI_add j 5, lw_h (show j + 1 < L by omega) hL, lw_h (show j + 2 < L by omega) hL, lw_h (show j + 3 < L by omega) hL, lw_h (show j + 4 < L by omega) hL, lw_h (show j + 5 < L by omega) hL, lw_c (show j + 1 < 4000 by omega), lw_c (show j + 2 < 4000 by omega), lw_c (show j + 3 < 4000 by omega), lw_c (show j + 4 < 4000 by omega), lw_c (show j + 5 < 4000 by omega)]
      have go : ∀ M2, jo_W n (151 * (j : Int) + 151) (10 * j + 10) M2 M2 → ∃ M', fd_0_592 L xs (fd_0_28 L xs f) (nI j) M2 = some (1, M') := fun M2 H2 => by
        unfold fd_0_592
        rw [show nI j + (6 : Int32) = nI (j + 6) from nI_add j 6]
        exact jo_loop xs hL f (j + 6) M2 (by omega) (Or.inr (by omega)) (by omega) (jo_W_b H2 (by omega) (by omega))
      have st : ∀ (F G : am_M → Option (Int32 × am_M)), (∃ r M1 M2, F M = some (r, M1) ∧ G M1 = some (r, M2) ∧ jo_W n (151 * (j : Int) + 151) (10 * j + 10) M2 M2) → ∃ M', ((F M).bind fun q => (G q.2).bind fun q' => if q.1 = q'.1 then fd_0_592 L xs (fd_0_28 L xs f) (nI j) q'.2 else some ((0 : Int32), q'.2)) = some (1, M') := fun F G ⟨r, M1, M2, g1, g2, g3⟩ => by
        rw [lw_n (K := fun M => fd_0_592 L xs (fd_0_28 L xs f) (nI j) M) g1 g2]; exact go M2 g3
      have wk : ∀ {F G : am_M → Option (Int32 × am_M)}, (∃ r M1 M2, F M = some (r, M1) ∧ G M1 = some (r, M2) ∧ jo_W n (151 * (j : Int)) (10 * j) M2 M2) → ∃ r M1 M2, F M = some (r, M1) ∧ G M1 = some (r, M2) ∧ jo_W n (151 * (j : Int) + 151) (10 * j + 10) M2 M2 := fun ⟨r, M1, M2, g1, g2, g3⟩ => ⟨r, M1, M2, g1, g2, jo_W_b g3 (by omega) (by omega)⟩
      obtain ⟨rA, rO, rC, rN, rH, ⟨m, rM⟩, rL, ⟨t, rD⟩⟩ := jo_rl H (by omega)
      generalize xs j &&& (31 : Int32) = d
      by_cases d0 : d = 0
      · rw [if_pos d0]; exact st _ _ (wk (jo_1 (jo_begin _) H))
      rw [if_neg d0]
      by_cases d1 : d = 1
      · rw [if_pos d1]; exact st _ _ (wk (jo_1 (jo_add _ _ _ _ _) H))
      rw [if_neg d1]
      by_cases d2 : d = 2
      · rw [if_pos d2]; exact st _ _ (wk (jo_1 jo_end H))
      rw [if_neg d2]
      by_cases d3 : d = 3
      · rw [if_pos d3]; exact st _ _ (wk (jo_1 jo_drop H))
      rw [if_neg d3]
      by_cases d4 : d = 4
      · rw [if_pos d4]; exact st _ _ (wk (jo_1 (jo_holds _) H))
      rw [if_neg d4]
      by_cases d5 : d = 5
      · rw [if_pos d5]; exact st _ _ (wk (jo_1 (jo_post _ _) H))
      rw [if_neg d5]
      by_cases d6 : d = 6
      · rw [if_pos d6]; exact st _ _ (jo_1 (jo_step _ (by omega) (by omega)) H)
      rw [if_neg d6]
      by_cases d7 : d = 7
      · rw [if_pos d7]; exact st _ _ (wk (jo_1 (jo_collect _ (by omega)) H))
      rw [if_neg d7]
      by_cases d8 : d = 8
      · rw [if_pos d8]; exact st _ _ (wk (jo_rd H (op_waiting rA rM _)))
      rw [if_neg d8]
      by_cases d9 : d = 9
      · rw [if_pos d9]; exact st _ _ (wk (jo_rd H (op_owner rO _)))
      rw [if_neg d9]
      by_cases d10 : d = 10
      · rw [if_pos d10]; exact st _ _ (wk (jo_rd H (op_cell rO rC _)))
      rw [if_neg d10]
      by_cases d11 : d = 11
      · rw [if_pos d11]; exact st _ _ (wk (jo_rd H (op_count rA rO rN _ _)))
      rw [if_neg d11]
      by_cases d12 : d = 12
      · rw [if_pos d12]; exact st _ _ (wk (jo_rd H (op_field rA rH _ _)))
      rw [if_neg d12]
      by_cases d13 : d = 13
      · rw [if_pos d13]; exact st _ _ (wk (jo_rd H (op_inner rO rH _ _)))
      rw [if_neg d13]
      by_cases d14 : d = 14
      · rw [if_pos d14]; exact st _ _ (wk (jo_1 (jo_rights _ _) H))
      rw [if_neg d14]
      by_cases d15 : d = 15
      · rw [if_pos d15]; exact st _ _ (wk (jo_rd H (op_shown rD _)))
      rw [if_neg d15]
      by_cases d16 : d = 16
      · rw [if_pos d16]; exact st _ _ (wk (jo_1 jo_garbage H))
      rw [if_neg d16]
      by_cases d17 : d = 17
      · rw [if_pos d17]; exact st _ _ (wk (jo_rd H (op_lost rL)))
      rw [if_neg d17]
      exact go M (jo_W_b H (by omega) (by omega))
/-- the law's loop, over the functions of class and reference, answers 1 -/
theorem wh_pure {L : Nat} (xs : Nat → Int32) (hL : L ≤ 3073) : ∃ M2 M' : am_M, fd_130 (if 0 < L then xs 0 else 0) (pf_M (if 0 < L then xs 0 else 0)) = some M2 ∧ fd_0_28 L xs 1000 1 M2 = some (1, M') := by
  obtain ⟨M2, c, h1, h2⟩ := jo_0 (if 0 < L then xs 0 else 0)
  obtain ⟨M', h3⟩ := jo_loop xs hL (n := c) 1000 1 M2 (by omega) (Or.inl (by omega)) (by omega) (jo_W_b h2 (by omega) (by omega))
  exact ⟨M2, M', h1, h3⟩
