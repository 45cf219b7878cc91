/-! rights, on both sides at once -/
section
variable {N M : am_M} {pl : Nat → Nat → Option Nat} {ow : Nat → Option Nat} {q : ct_Q} {pr : Nat → Nat} {m n nf a : Nat}
theorem rs_178_95 (hk : ms_k pl q pr m n nf) (ha : a < n) (x2 : Int32) : ∀ (k j f : Nat) (N : am_M) (se : Nat → Nat → Bool) (R : Nat → Nat → Prop), j + k = m → k < f → rf_V N se → rf_Q N pl q m → (∀ b, b < nf → N 102 b = nI (pr b)) → mt_R se R → ∃ (N' : am_M) (se' : Nat → Nat → Bool), fd_178_95 f (nI a) x2 (nI j) N = fd_178_167 1000 x2 0 N' ∧ rf_V N' se' ∧ fr_ [114] N N' ∧ mt_R se' (fun t c => R t c ∨ mt_C pl q pr m a j t c)
  | _, _, 0, _, _, _, _, hf, _, _, _, _ => by omega
  | 0, j, f + 1, N, se, R, hj, _, H, hQ, hp, hR => by
    have m20 := hk.1
    refine ⟨N, se, ?_, H, fr_refl _ _, mt_R_eq hR (fun o c => ⟨Or.inl, fun h => h.resolve_right (fun ⟨i, h1, h2, _⟩ => by omega)⟩)⟩
    rw [un_178_95, hQ.1, pu_end (by omega) (by omega)]
  | k + 1, j, f + 1, N, se, R, hj, hf, H, hQ, hp, hR => by
    obtain ⟨m20, nf6, n4, pr6, hq, h21⟩ := hk
    obtain ⟨e1, e2, e3, e4⟩ := hQ.2.2 j (by omega)
    obtain ⟨g1, g2, g3⟩ := hq j (by omega)
    rw [un_178_95, hQ.1, pu_go (by omega) (by omega)]
    simp (disch := omega) only [pu_cl, pu_g2]
    rw [e1, e2, e3, e4]
    unfold fd_178_159
    rw [nI_1]
    have fin : ∀ (N1 : am_M) (s1 : Nat → Nat → Bool), rf_V N1 s1 → fr_ [114] N N1 → (∀ R', (∀ o c, R' o c ↔ R o c ∨ ((q j).1 = 0 ∧ (q j).2.1 = a ∧ pl 21 j = some o ∧ c = pr (q j).2.2.1)) → mt_R s1 R') → ∃ (N' : am_M) (se' : Nat → Nat → Bool), fd_178_95 f (nI a) x2 (nI (j + 1)) N1 = fd_178_167 1000 x2 0 N' ∧ rf_V N' se' ∧ fr_ [114] N N' ∧ mt_R se' (fun t c => R t c ∨ mt_C pl q pr m a j t c) := by
      intro N1 s1 g1 g2 g3
      obtain ⟨N2, s2, p1, p2, p3, p4⟩ := rs_178_95 ⟨m20, nf6, n4, pr6, hq, h21⟩ ha x2 k (j + 1) f N1 s1 _ (by omega) (by omega) g1 (rf_Q_f hQ (by rw [g2 96 (by decide)]) (g2 _ (by decide)) (g2 _ (by decide)) (g2 _ (by decide)) (g2 _ (by decide))) (fun b hb => by rw [g2 _ (by decide)]; exact hp b hb) (g3 (fun o c => R o c ∨ ((q j).1 = 0 ∧ (q j).2.1 = a ∧ pl 21 j = some o ∧ c = pr (q j).2.2.1)) (fun o c => Iff.rfl))
      refine ⟨N2, s2, p1, p2, fr_tr g2 p3, mt_R_eq p4 (fun o c => ?_)⟩
      constructor
      · rintro ((h | h) | ⟨i, h1, h2, h3⟩)
        · exact Or.inl h
        · exact Or.inr ⟨j, Nat.le_refl _, by omega, h⟩
        · exact Or.inr ⟨i, by omega, h2, h3⟩
      · rintro (h | ⟨i, h1, h2, h3⟩)
        · exact Or.inl (Or.inl h)
        · by_cases e : i = j
          · subst e; exact Or.inl (Or.inr h3)
          · exact Or.inr ⟨i, by omega, h2, h3⟩
    have none' : (∀ o c, ¬ ((q j).1 = 0 ∧ (q j).2.1 = a ∧ pl 21 j = some o ∧ c = pr (q j).2.2.1)) → ∃ (N' : am_M) (se' : Nat → Nat → Bool), fd_178_95 f (nI a) x2 (nI (j + 1)) N = fd_178_167 1000 x2 0 N' ∧ rf_V N' se' ∧ fr_ [114] N N' ∧ mt_R se' (fun t c => R t c ∨ mt_C pl q pr m a j t c) := fun hn =>
      fin N se H (fr_refl _ _) (fun R' h => mt_R_eq hR (fun o c => by rw [h o c]; exact ⟨Or.inl, fun g => g.resolve_right (hn o c)⟩))
    by_cases k0 : (q j).1 = 0
    · rw [if_pos (show nI (q j).1 = 0 by rw [k0]; rfl), if_pos k0]
      by_cases ka : (q j).2.1 = a
      · rw [if_pos (by rw [ka])]
        have bn := g3 k0
        cases hv : pl 21 j with
        | none =>
          rw [if_pos (show en_o none = -1 from rfl)]
          exact none' (fun o c g => by rw [hv] at g; cases g.2.2.1)
        | some v =>
          have v16 := h21 j v hv
          have p6 := pr6 _ bn
          rw [if_neg (show ¬ en_o (some v) = -1 from en_nI_m1 (by omega))]
          simp (disch := omega) only [pu_cl, pu_g2]
          rw [hp _ bn]
          simp only [show en_o (some v) = nI v from rfl, pu_6]
          simp (disch := omega) only [pu_cl, pu_g2]
          refine fin _ _ (rf_V_w v16 p6 H) (fr_w (fr_refl _ _) (by decide)) (fun R' h => mt_R_eq (mt_R_mt hR (some v) (pr (q j).2.2.1)) (fun o c => ?_))
          rw [h o c]
          constructor
          · rintro (g | ⟨g, g'⟩)
            · exact Or.inl g
            · exact Or.inr ⟨k0, ka, by rw [hv]; exact g, g'⟩
          · rintro (g | ⟨_, _, g, g'⟩)
            · exact Or.inl g
            · exact Or.inr ⟨by rw [← hv]; exact g, g'⟩
      · rw [if_neg (fun g => ka ((en_nI (by omega) (by omega)).mp g))]
        exact none' (fun o c g => ka g.2.1)
    · rw [if_neg (show ¬ nI (q j).1 = 0 from fun g => k0 ((en_nI (t := 0) (by omega) (by omega)).mp g))]
      exact none' (fun o c g => k0 g.1)
/-- the answer, of what is seen by the six -/
def ab_rv (b0 b1 b2 b3 b4 b5 : Bool) : Int32 := (if b0 || b1 || b2 || b3 || b4 || b5 then 1 else 0) + (if b0 || b1 || b2 || b3 || b4 then 2 else 0) + (if b0 || b1 || b2 then 4 else 0)
theorem cs_122 {mb : Nat → Nat → Bool} {w : Nat → Nat} {z o : Nat} (H : cl_wk M mb w z) (ho : o < 16) : fd_122 (nI o) M = some (ab_rv (mb o 0) (mb o 1) (mb o 2) (mb o 3) (mb o 4) (mb o 5), M) := by
  unfold fd_122 fd_80 fd_122_13 fd_122_29
  simp (disch := omega) only [pu_cl, pu_g2]
  by_cases h0 : M 90 o = 0
  · rw [if_pos h0, Option.bind_some]
    simp only []
    rw [H.1 o ho] at h0 ⊢
    unfold en_b at h0 ⊢
    generalize mb o 0 = b0 at *; generalize mb o 1 = b1 at *; generalize mb o 2 = b2 at *; generalize mb o 3 = b3 at *; generalize mb o 4 = b4 at *; generalize mb o 5 = b5 at *
    cases b0 <;> cases b1 <;> cases b2 <;> cases b3 <;> cases b4 <;> cases b5 <;> first | rfl | exact absurd h0 (by decide)
  · rw [if_neg h0, Option.bind_some]
    simp only []
    rw [H.1 o ho] at h0 ⊢
    unfold en_b at h0 ⊢
    generalize mb o 0 = b0 at *; generalize mb o 1 = b1 at *; generalize mb o 2 = b2 at *; generalize mb o 3 = b3 at *; generalize mb o 4 = b4 at *; generalize mb o 5 = b5 at *
    cases b0 <;> cases b1 <;> cases b2 <;> cases b3 <;> cases b4 <;> cases b5 <;> first | rfl | exact absurd (by decide) h0
theorem rs_204s {se : Nat → Nat → Bool} {o j f : Nat} (H : rf_V N se) (ho : o < 16) (hj : j < 5) (t r w : Bool) : fd_178_204 (f + 1) (nI o) (pu_b t) (pu_b r) (pu_b w) (nI j) N = fd_178_204 f (nI o) (pu_b t) (pu_b (r || se o j)) (pu_b (w || (se o j && decide (j < 3)))) (nI (j + 1)) N := by
  have e := H (6 * o + j) (by omega)
  rw [show (6 * o + j) / 6 = o by omega, show (6 * o + j) % 6 = j by omega] at e
  rw [un_178_204, if_neg (show ¬ (5 : Int32) ≤ nI j from pu_ge (n := 5) hj (by decide))]
  unfold fd_178_230 fd_178_235 fd_178_269 fd_178_265 fd_178_270
  simp (disch := omega) only [pu_6, pu_cl, pu_g2]
  rw [e, rs_144 (by omega), nI_1]
  cases r <;> cases w <;> cases se o j <;> by_cases h3 : j < 3 <;> simp [pu_b, h3]
theorem rs_204e {f : Nat} (o : Int32) (t r w : Bool) : fd_178_204 (f + 1) o (pu_b t) (pu_b r) (pu_b w) (nI 5) N = some ((if t || r then 1 else 0) + (if r then 2 else 0) + (if w then 4 else 0), N) := by
  rw [un_178_204, if_pos (by decide)]
  unfold fd_178_287 fd_178_292 fd_178_302 fd_178_313
  cases t <;> cases r <;> cases w <;> rfl
theorem rs_204 {se : Nat → Nat → Bool} {o : Nat} (H : rf_V N se) (ho : o < 16) : rv_204 (nI o) N = some (ab_rv (se o 0) (se o 1) (se o 2) (se o 3) (se o 4) (se o 5), N) := by
  unfold rv_204
  rw [show (6 : Int32) * nI o + (5 : Int32) = nI (6 * o + 5) from pu_6 o 5]
  simp (disch := omega) only [pu_cl, pu_g2]
  have e := H (6 * o + 5) (by omega)
  rw [show (6 * o + 5) / 6 = o by omega, show (6 * o + 5) % 6 = 5 by omega] at e
  rw [e]
  show fd_178_204 (994 + 1 + 1 + 1 + 1 + 1 + 1) (nI o) (pu_b (se o 5)) (pu_b false) (pu_b false) (nI 0) N = _
  rw [rs_204s H ho (by decide), rs_204s H ho (by decide), rs_204s H ho (by decide), rs_204s H ho (by decide), rs_204s H ho (by decide), rs_204e]
  generalize se o 0 = b0; generalize se o 1 = b1; generalize se o 2 = b2; generalize se o 3 = b3; generalize se o 4 = b4; generalize se o 5 = b5
  cases b0 <;> cases b1 <;> cases b2 <;> cases b3 <;> cases b4 <;> cases b5 <;> rfl
end
section
variable {n T : Nat} {Bd : Int}
theorem jo_rights (x y : Int32) : jo_g (fd_117 x y) (fd_178 x y) n Bd T Bd T := by
  intro M N H
  have H' := H
  obtain ⟨n1, n4, hM0, hM94, hN0, hB0, bg, op, pr, ln, cd, hok, hZ, hP, a0, b0, pl, ow, ct, q, m, ce, lo, ls, sh, tt, hS, hT, R, htt⟩ := H
  by_cases hx : pu_is x n
  · obtain ⟨a, ha, rfl⟩ := hx
    have ho4 : ∀ o a, ow o = some a → a < 4 := fun o a' e => by have := (R.2.2.2.2.2.2.2.1 o a' e).1; omega
    by_cases hy : pu_is y 16
    · obtain ⟨o, ho, rfl⟩ := hy
      obtain ⟨sH, sO, sT, sQ, sC, sL, sD⟩ := id hS
      obtain ⟨tH, tO, tT, tQ, tC, tL, tD⟩ := id hT
      have x107 := sp_107 ho M
      rw [sO o ho] at x107
      have x173 := sp_173 ho N
      rw [tO o ho] at x173
      by_cases hl : ow o = none
      · rw [hl] at x107 x173
        refine ⟨0, M, N, ?_, ?_, H', fun _ _ => rfl, fun _ _ => rfl⟩
        · unfold fd_117
          rw [sp_63 n4 ha hM0, Option.bind_some, if_neg pu_10, show fd_107 (nI o) (1, M).2 = _ from x107]
          rfl
        · unfold fd_178
          rw [hN0, sp_148 ha (by omega), Option.bind_some, if_neg pu_10, show fd_173 (nI o) (1, N).2 = _ from x173]
          rfl
      · have em1 : ¬ en_o (ow o) = -1 := fun g => hl ((en_o_m1 (fun t h => by have := ho4 o t h; omega)).mp g)
        rw [if_neg em1] at x107 x173
        have hfle : pg_f bg op ≤ bg := by unfold pg_f; split <;> omega
        have b6 := hok.1
        have hk := sy_ms R (by omega) (fun b hb => (hok.2 b (by omega)).2.1)
        have hpr : ∀ b, b < pg_f bg op → st_sn (pr b) = true := fun b hb => (hok.2 b (by omega)).1
        have hw : ∀ h k t, h < 20 → pl h k = some t → t < 16 := fun h k t h1 h2 => (R.2.2.2.2.1 h k t h1 h2).1
        have m20 := sQ.2.1
        -- the class
        obtain ⟨M1, c1, c2, c3⟩ := cs_76 M
        obtain ⟨M2, mb2, w2, z2, d1, d2, d3, d4⟩ := cs_105_2 (ow := ow) hw (show a < 4 by omega) 6 0 1000 M1 _ _ _ _ (by omega) (by omega) c2 (cl_H_f sH (c3 _ (by decide))) mt_R_0
        have fM2 := fr_tr c3 d3
        obtain ⟨M3, mb3, w3, z3, e1, e2, e3, e4⟩ := cs_118_2 (a := a) hk ha m 0 1000 M2 mb2 w2 z2 _ (by omega) (by omega) d2 (cl_Q_f sQ (fM2 _ (by decide)) (fM2 _ (by decide)) (fM2 _ (by decide)) (fM2 _ (by decide)) (fM2 _ (by decide))) (fun b hb => by rw [fM2 _ (by simp; omega)]; exact (hZ.1.2.2 b (by omega)).1) d4
        have fM3 := fr_tr fM2 e3
        have lv : ∀ p, p < 16 → gh_D1 pl (fun t c => (False ∨ (0 ≤ c ∧ c < 6 ∧ pl (16 + a) c = some t)) ∨ mt_C pl q pr m a 0 t c) p → ow p ≠ none := fun p hp ⟨t, c, h, c5, hd⟩ => by
          rcases h with (h | ⟨_, h2, h3⟩) | ⟨i, h1, h2, h3, _, h4, h5⟩
          · exact h.elim
          · exact sy_kd R (by omega) c5 h3 hd
          · exact sy_md R hpr h2 h3 h4 (by omega) hd
        obtain ⟨M4, mb4, w4, z4, g1, g2, g3, g4⟩ := cs_121 (ow := ow) hw e2 (cl_H_f sH (fM3 _ (by decide))) e4 lv
        have fM4 := fr_tr fM3 g3
        -- the reference
        obtain ⟨N1, r1, r2, r3⟩ := rs_178_23 (nI a) (nI o) 96 0 1000 N (by omega) (by omega) (fun x hx => by omega)
        obtain ⟨N2, s2, t1, t2, t3, t4⟩ := rs_178_44 hw (show a < 4 by omega) (nI o) 6 0 1000 N1 _ _ (by omega) (by omega) r2 (rf_H_f tH (r3 _ (by decide)) (r3 _ (by decide))) mt_R_0
        have fN2 := fr_tr r3 t3
        obtain ⟨N3, s3, u1, u2, u3, u4⟩ := rs_178_95 (a := a) hk ha (nI o) m 0 1000 N2 s2 _ (by omega) (by omega) t2 (rf_Q_f tQ (by rw [fN2 96 (by decide)]) (fN2 _ (by decide)) (fN2 _ (by decide)) (fN2 _ (by decide)) (fN2 _ (by decide))) (fun b hb => by rw [fN2 _ (by decide)]; exact (hP.2.2 b (by omega)).1) t4
        have fN3 := fr_tr fN2 u3
        have start : 97 ≤ ab_sn s3 + 96 ∨ gh_vd pl (fun o c => s3 o c = true) := by
          by_cases h0 : ab_sn s3 ≤ 0
          · right
            intro p c k u hp hc hk hs hu
            have hz : ab_n (ab_se s3) 96 ≤ ab_n (fun _ => false) 96 := Nat.le_trans h0 (Nat.zero_le _)
            have := ab_n_strict 96 (d := fun _ => false) (d' := ab_se s3) (fun o _ h => by cases h) hz (6 * p + c) (by omega)
            unfold ab_se at this
            rw [show (6 * p + c) / 6 = p by omega, show (6 * p + c) % 6 = c by omega] at this
            rw [this] at hs; cases hs
          · left; omega
        obtain ⟨N4, s4, v1, v2, v3, v4, v5, v6⟩ := rs_178_167 hw (nI o) 96 0 1000 N3 s3 (by omega) (by omega) u2 (rf_H_f tH (fN3 _ (by decide)) (fN3 _ (by decide))) start
        have fN4 := fr_tr fN3 v3
        have same : ∀ c, mb4 o c = s4 o c := fun c => by
          have h1 : s4 o c = true ↔ gh_vc pl (fun t c => (False ∨ (0 ≤ c ∧ c < 6 ∧ pl (16 + a) c = some t)) ∨ mt_C pl q pr m a 0 t c) o c := by
            constructor
            · exact v6 _ (fun p c k u hp hc hk h hu => gh_vc_1 hp hc hk h hu) (fun o c h => gh_vc_0 ((u4 o c).mp h)) o c
            · exact fun h => h (fun o c => s4 o c = true) (fun o c h => v4 o c ((u4 o c).mpr h)) v5
          have h2 := g4 o c
          cases hm : mb4 o c with
          | true => exact ((h1.mpr (h2.mp hm))).symm
          | false =>
            cases hs : s4 o c with
            | false => rfl
            | true => rw [h2.mpr (h1.mp hs)] at hm; cases hm
        refine ⟨ab_rv (mb4 o 0) (mb4 o 1) (mb4 o 2) (mb4 o 3) (mb4 o 4) (mb4 o 5), M4, N4, ?_, ?_, jo_cl n1 n4 hM0 hM94 hN0 hB0 hok hZ hP (fr_q_of fM4 (by decide)) (fr_n_of fN4 (fs_of (L := []) fN4 (by decide)) (by decide) (by decide)) (cl_S_f hS (fun x _ _ h1 h2 h3 => fM4 x (by simp; omega))) (rf_S_f hT (fun x hx => fN4 x (by simp; omega)) (fun s _ => by rw [fN4 96 (by decide)])) R htt⟩
        · unfold fd_117
          rw [sp_63 n4 ha hM0, Option.bind_some, if_neg pu_10, show fd_107 (nI o) (1, M).2 = _ from x107, Option.bind_some, if_neg pu_10, show fd_76 ((1 : Int32), M).2 = _ from c1, Option.bind_some]
          unfold fd_105 fd_118
          rw [show fd_105_2 1000 (nI a) (0 : Int32) M1 = _ from d1, Option.bind_some, show fd_118_2 1000 (nI a) (0 : Int32) M2 = _ from e1, Option.bind_some, g1, Option.bind_some, cs_122 g2 ho]
          rfl
        · unfold fd_178
          rw [hN0, sp_148 ha (by omega), Option.bind_some, if_neg pu_10, show fd_173 (nI o) (1, N).2 = _ from x173, Option.bind_some, if_neg pu_10]
          rw [show fd_178_23 1000 (nI a) (nI o) (0 : Int32) N = _ from r1, show fd_178_44 1000 (nI a) (nI o) (0 : Int32) N1 = _ from t1, show fd_178_95 1000 (nI a) (nI o) (0 : Int32) N2 = _ from u1, show fd_178_167 1000 (nI o) (0 : Int32) N3 = _ from v1, rs_204 v2 ho, same, same, same, same, same, same]
    · refine ⟨0, M, N, ?_, ?_, H', fun _ _ => rfl, fun _ _ => rfl⟩
      · unfold fd_117
        rw [sp_63 n4 ha hM0, Option.bind_some, if_neg pu_10, sp_107_no hy]
        rfl
      · unfold fd_178
        rw [hN0, sp_148 ha (by omega), Option.bind_some, if_neg pu_10, sp_173_no hy]
        rfl
  · refine ⟨0, M, N, ?_, ?_, H', fun _ _ => rfl, fun _ _ => rfl⟩
    · unfold fd_117
      rw [sp_63_no n4 hx hM0]
      rfl
    · unfold fd_178
      rw [hN0, sp_148_no (by omega) hx]
      rfl
end
