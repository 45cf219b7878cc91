/-! collect, on both sides at once -/
section
variable {pr : Nat → Nat} {a b n nf : Nat} {q : ct_Q} {m : Nat} {lo : Nat → Option Nat} {Bd : Int} {cl : Nat → Bool} {T : Nat}
theorem sy_frs {ct : Nat → Nat → Int} (hpr : ∀ b, b < nf → st_sn (pr b) = true) : ∀ (k u : Nat) (s : (Nat → Nat → Option Nat) × (Nat → Option Nat) × Nat), u + k = 16 → sy_Q a b n nf pr cl s.1 s.2.1 ct q m lo Bd → sy_Q a b n nf pr cl (ab_fs cl ct a k u s).1 (ab_fs cl ct a k u s).2.1 ct q m lo Bd
  | 0, _, _, _, h => h
  | k + 1, u, s, hu, h => by
    rw [ab_fs]
    refine sy_frs hpr k (u + 1) _ (by omega) ?_
    by_cases e : s.2.1 u = some a ∧ cl u = false ∧ ct a u = 0
    · rw [if_pos e]; exact sy_fr hpr h (by omega) e.1 e.2.2
    · rw [if_neg e]; exact h
theorem sy_gbs {pl : Nat → Nat → Option Nat} {ow : Nat → Option Nat} (ha : a < 4) : ∀ (k u : Nat) (s : (Nat → Nat → Int) × ct_Q × Nat), u + k = 16 → sy_Q a b n nf pr cl pl ow s.1 s.2.1 s.2.2 lo Bd → sy_Q a b n nf pr cl pl ow (ab_gs cl ow a k u s).1 (ab_gs cl ow a k u s).2.1 (ab_gs cl ow a k u s).2.2 lo Bd
  | 0, _, _, _, h => h
  | k + 1, u, s, hu, h => by
    rw [ab_gs]
    refine sy_gbs ha k (u + 1) _ (by omega) ?_
    by_cases e : ow u ≠ none ∧ ow u ≠ some a ∧ cl u = false ∧ s.1 a u ≠ 0 ∧ s.2.2 < 20
    · rw [if_pos e]
      obtain ⟨e1, e2, e3, e4, e5⟩ := e
      cases eo : ow u with
      | none => exact absurd eo e1
      | some a1 => exact sy_gb ha h (by omega) eo (fun g => e2 (by rw [eo]; exact congrArg some g)) e3 e4 e5
    · rw [if_neg e]; exact h
theorem jo_collect (x : Int32) (hB : Bd < 890000) : jo_g (fd_103 x) (fd_168 x) n Bd T Bd T := by
  intro M N H
  have H' := H
  obtain ⟨n1, n4, hM0, hM94, hN0, hB0, bg, op, pr, ln, cd, hok, hZ, hP, a0, b0, pl, ow, ct, q, m, ce, lo, ls, sh, tt, hS, hT, R, htt⟩ := H
  by_cases hx : pu_is x n
  · obtain ⟨a, ha, rfl⟩ := hx
    have hpr : ∀ b, b < pg_f bg op → st_sn (pr b) = true := fun b hb => (hok.2 b (by unfold pg_f at hb; split at hb <;> omega)).1
    obtain ⟨b, R1⟩ := sy_end (lo' := lo) a R R.2.2.1
    have epl : (fun h k => if h = 20 then none else pl h k) = pl := by
      funext h k
      by_cases e : h = 20
      · subst e
        have := R.2.1 k
        rw [this]; simp [ty_e]
      · simp [e]
    rw [epl] at R1
    obtain ⟨cl, hcl, hcl'⟩ := sy_bits (gh_kp pl a)
    have ho4 : ∀ o a, ow o = some a → a < 4 := fun o a' e => by have := (R.2.2.2.2.2.2.2.1 o a' e).1; omega
    have Q : sy_Q a b n (pg_f bg op) pr cl pl ow ct q m lo Bd := by
      refine ⟨R1, ?_⟩
      obtain ⟨g, V, J⟩ := R1.1
      refine gh_st_keep J (by omega) (fun h k h1 h2 => ?_) (fun k => rfl) (fun c o hK hk => ⟨hK, fun e => ?_⟩)
      · by_cases e : h = 20
        · subst e; rw [R.2.1 k]; simp [ty_e]
        · exact R.2.2.2.1 h k (by omega)
      · refine (hcl o ?_).mpr (hk e)
        have : ow o ≠ none := by rcases hK with g | g; rw [g]; simp; exact g.1
        cases e2 : ow o with
        | none => exact absurd e2 this
        | some a' => exact (R.2.2.2.2.2.2.2.1 o a' e2).2
    have hw : ∀ h k t, h < 20 → pl h k = some t → t < 16 := fun h k t h1 h2 => (R.2.2.2.2.1 h k t h1 h2).1
    have h6 : ∀ h k t, h < 20 → pl h k = some t → k < 6 := fun h k t h1 h2 => (R.2.2.2.2.1 h k t h1 h2).2
    have hno : ∀ o, o < 16 → ow o = some a → cl o = false → ct a o = 0 → (∀ b k, b < 4 → pl (16 + b) k ≠ some o) ∧ ∀ i, i < m → pl 21 i ≠ some o := by
      intro o ho how hc hz
      obtain ⟨z1, z2, z3⟩ := ct_zero R.2.2.2.2.2.1 ho how hz rfl
      refine ⟨fun c k hc4 e => ?_, fun i hi e => ?_⟩
      · by_cases ec : c = a
        · subst ec
          have := (hcl o ho).mpr ⟨k, o, e, Or.inl rfl⟩
          rw [hc] at this; cases this
        · rcases sy_fd R hc4 e with g | g
          · rw [how] at g; injection g with g; exact ec g.symm
          · rw [z1 c hc4] at g; omega
      · by_cases ek : (q i).1 = 0
        · have := (R.2.2.2.2.2.2.2.2.2.1.2.2.1 i o hi ek ho).mpr ⟨o, e, Or.inl rfl⟩
          rw [z2 i hi ek] at this; cases this
        · rw [R.2.2.2.2.2.2.2.2.2.1.2.2.2.1 i (fun g => ek g.2)] at e; cases e
    have hen : ∀ o, o < 16 → en_w (ct a o) := fun o ho => sy_R_w R (by omega) (by omega) ho
    obtain ⟨sH, sO, sT, sQ, sC, sL, sD⟩ := hS
    obtain ⟨tH, tO, tT, tQ, tC, tL, tD⟩ := hT
    obtain ⟨M', c1, c2, c3, c4, c5, c6, c7⟩ := cs_103 n4 ha hM0 hw h6 ho4 sH sO sT sQ sC hen (fun p hp hk => by obtain ⟨k, t, k5, ht, hd⟩ := hk; exact sy_kd R (by omega) k5 ht hd) hcl hno
    obtain ⟨N', r1, r2, r3, r4, r5, r6, r7⟩ := rs_168 n4 ha hN0 hw h6 ho4 tH tO tT tQ hen hcl hno
    have Q' := sy_gbs (by omega) 16 0 (ct, q, m) (by omega) (sy_frs hpr 16 0 (pl, ow, 0) (by omega) Q)
    refine ⟨_, M', N', c1, r1, jo_cl (tt' := tt) (sh' := sh) (ls' := ls) (ce' := ce) n1 n4 hM0 hM94 hN0 (by omega) hok hZ hP (fr_q_of c7 (by decide)) (fr_n_of r6 r7 (by decide) (by decide)) ⟨c2, c3, c4, c5, c6, ?_, ?_⟩ ⟨r2, r3, r4, r5, ?_, ?_, ?_⟩ Q'.1 htt⟩
    · rw [c7 94 (by decide)]; exact sL
    · unfold cl_D; rw [c7 92 (by decide), c7 93 (by decide)]; exact sD
    · unfold rf_C; rw [r6 98 (by decide)]; exact tC
    · rw [r7 24 (by decide)]; exact tL
    · unfold rf_D; rw [r7 25 (by decide), r6 116 (by decide)]; exact tD
  · refine ⟨-1, M, N, ?_, ?_, H', fun _ _ => rfl, fun _ _ => rfl⟩
    · unfold fd_103
      rw [sp_63_no n4 hx hM0]
      rfl
    · unfold fd_168
      rw [hN0, sp_148_no (by omega) hx]
      rfl
/-- post -/
theorem jo_post (x y : Int32) : jo_g (fd_62 x y) (fd_154 x y) n Bd T Bd T := by
  intro M N H
  have H' := H
  obtain ⟨n1, n4, hM0, hM94, hN0, hB0, bg, op, pr, ln, cd, hok, hZ, hP, a0, b0, pl, ow, ct, q, m, ce, lo, ls, sh, tt, hS, hT, R, htt⟩ := H
  have b6 := hok.1
  have hfle : pg_f bg op ≤ 6 := by unfold pg_f; split <;> omega
  by_cases hx : pu_is x n
  · obtain ⟨a, ha, rfl⟩ := hx
    have f63 : fd_63 (nI a) M = some (1, M) := sp_63 n4 ha hM0
    have f64 : fd_64 y M = if y < 0 then some (0, M) else fd_64_25 y (nI (pg_f bg op)) M := by
      unfold fd_64
      have h3 := hZ.1.2.1
      have h2 := hZ.1.1
      cases hop : op with
      | false =>
        rw [hop] at h3
        rw [if_pos (show M 1 3 = 0 from h3), h2]; rfl
      | true =>
        rw [hop] at h3
        have := (hZ.2 hop).1
        rw [if_neg (show ¬ M 1 3 = 0 by rw [h3]; decide), h2, show nI bg - (1 : Int32) = nI (bg - 1) by rw [show bg = (bg - 1) + 1 by omega, ← nI_1]; simp]; rfl
    have f154 : fd_154 (nI a) y N = fd_154_32 (nI a) y y (nI (pg_f bg op)) N := by
      unfold fd_154
      rw [hN0, sp_148 ha (by omega), Option.bind_some, if_neg pu_10]
      have h3 := hP.2.1
      have h2 := hP.1
      simp only []
      cases hop : op with
      | false =>
        rw [hop] at h3
        rw [if_pos (show N 96 7 = 0 from h3), h2]; rfl
      | true =>
        rw [hop] at h3
        have := (hZ.2 hop).1
        rw [if_neg (show ¬ N 96 7 = 0 by rw [h3]; decide), h2, show nI bg - (1 : Int32) = nI (bg - 1) by rw [show bg = (bg - 1) + 1 by omega, ← nI_1]; simp]; rfl
    by_cases hy : pu_is y (pg_f bg op)
    · obtain ⟨bh, hbh, rfl⟩ := hy
      have e64 : fd_64 (nI bh) M = some (1, M) := by
        rw [f64, if_neg (pu_pos (by omega))]
        unfold fd_64_25
        rw [if_neg (pu_ge hbh (by omega))]
      have e154 : fd_154 (nI a) (nI bh) N = if (N 96 15) = (20 : Int32) then (some ((0 : Int32), N)) else ((fd_155 (0 : Int32) (nI a) (nI bh) (-1 : Int32) N).bind fun q5 => some ((1 : Int32), q5)) := by
        rw [f154]
        unfold fd_154_32
        rw [sp_148 hbh (by omega), Option.bind_some, if_neg pu_10]
      have e62 : fd_62 (nI a) (nI bh) M = if (1 : Int32) ≤ (20 : Int32) - M 84 4 then ((fd_66 (0 : Int32) (nI a) (-1 : Int32) (nI bh) M).bind fun q10 => some ((1 : Int32), q10)) else (some ((0 : Int32), M)) := by
        unfold fd_62 fd_65
        rw [f63, Option.bind_some, if_neg pu_10, e64, Option.bind_some, if_neg pu_10, Option.bind_some]
      obtain ⟨sH, sO, sT, sQ, sC, sL, sD⟩ := hS
      obtain ⟨tH, tO, tT, tQ, tC, tL, tD⟩ := hT
      have m20 := sQ.2.1
      rw [tQ.1] at e154
      rw [sQ.1, show (20 : Int32) - nI m = nI (20 - m) by rw [show (20 : Int32) = nI 20 from rfl, show (20 : Nat) = (20 - m) + m by omega, ← nI_add]; simp] at e62
      by_cases hm : m < 20
      · rw [if_neg (fun g => by have := (en_nI (t := 20) (by omega) (by omega)).mp g; omega)] at e154
        rw [if_pos (show (1 : Int32) ≤ nI (20 - m) from (pu_le (a := 1) (by omega) (by omega)).mpr (by omega))] at e62
        obtain ⟨⟨g, V, J⟩, h2, h3, h4, h5, h6, h7, h8, h9, ⟨k1, k2, k3, k4, k5⟩, h11⟩ := R
        have pm : pl 21 m = none := k4 m (fun h => by omega)
        obtain ⟨M', c1, c2, c3⟩ := cs_66 (pl' := pl) sQ hm (0, a, bh, 0, fun _ => false) (fun _ _ => rfl) (a1 := 0) (a2 := nI a) (a3 := -1) (a4 := nI bh) rfl rfl (by rw [pm]; rfl) rfl
        obtain ⟨N', r1, r2, r3, r4⟩ := rs_155 (pl' := pl) tQ hm (0, a, bh, 0, fun _ => false) (fun _ _ => rfl) (a1 := 0) (a2 := nI a) (a3 := nI bh) (a4 := -1) rfl rfl rfl (by rw [pm]; rfl)
        rw [c1, Option.bind_some] at e62
        rw [r1, Option.bind_some] at e154
        have ne : ∀ i, i ≠ m → ct_ap q m (0, a, bh, 0, fun _ => false) i = q i := fun i h => if_neg h
        have es : ct_ap q m (0, a, bh, 0, fun _ => false) m = (0, a, bh, 0, fun _ => false) := if_pos rfl
        have J1 := gh_J_mono (pl' := pl) (cb' := sy_cb pr (ct_ap q m (0, a, bh, 0, fun _ => false)) ty_e) (cx' := sy_cx a0 b0 ty_e) J (fun h k v hv => ⟨hv, by
          unfold gh_ca
          by_cases e : h < 20
          · rw [if_pos e, if_pos e]
          · rw [if_neg e, if_neg e]
            unfold sy_cb
            by_cases e2 : h = 21
            · subst e2
              rw [ne k (fun g => by rw [g, pm] at hv; cases hv)]
            · simp [e2], fun _ => rfl⟩) J.2.2.2.2.2
        have R' : sy_R a0 b0 n (pg_f bg op) pr ty_e pl ow ct (ct_ap q m (0, a, bh, 0, fun _ => false)) (m + 1) lo Bd := by
          refine ⟨⟨g, V, J1⟩, h2, h3, h4, h5, ct_I_d 0 (ct_I_call (d := a) (ct_I_d a h6) rfl rfl rfl), h7, h8, h9, ⟨by omega, fun i hi => ?_, fun i o hi hk ho => ?_, fun i hi => ?_, k5⟩, fun o ho => ?_⟩
          · by_cases e : i = m
            · subst e; rw [es]; exact ⟨show 0 < 3 by decide, ha, fun _ => hbh, fun g => absurd (show 0 = 1 from g) (by decide), fun g => absurd (show 0 = 2 from g) (by decide)⟩
            · rw [ne i e]; exact k2 i (by omega)
          · by_cases e : i = m
            · subst e; rw [es, pm]
              constructor
              · intro g; cases g
              · rintro ⟨v, g, _⟩; cases g
            · rw [ne i e] at hk ⊢; exact k3 i o (by omega) hk ho
          · by_cases e : i = m
            · subst e; exact pm
            · rw [ne i e] at hi; exact k4 i (fun g => hi ⟨by omega, g.2⟩)
          · have e : sy_W ct (ct_ap q m (0, a, bh, 0, fun _ => false)) (m + 1) o = sy_W ct q m o := by
              unfold sy_W
              congr 1
              show ct_sum _ m + (if (ct_ap q m (0, a, bh, 0, fun _ => false) m).1 = 1 ∧ (ct_ap q m (0, a, bh, 0, fun _ => false) m).2.2.1 = o then (ct_ap q m (0, a, bh, 0, fun _ => false) m).2.2.2.1 else 0) = _
              rw [es, if_neg (fun g => absurd (show 0 = 1 from g.1) (by decide)), Int.add_zero]
              exact ct_sum_eq (fun i hi => by rw [ne i (by omega)])
            rw [e]; exact h11 o ho
        refine ⟨1, M', N', e62, e154, jo_cl (pl' := pl) (tt' := tt) (sh' := sh) (ls' := ls) (ce' := ce) n1 n4 hM0 hM94 hN0 (by omega) hok hZ hP (fr_q_of c3 (by decide)) (fr_n_of r3 r4 (by decide) (by decide)) ⟨cl_H_f sH (c3 _ (by decide)), cl_O_f sO (c3 _ (by decide)), cl_T_f sT (c3 _ (by decide)), c2, ?_, ?_, ?_⟩ ⟨rf_H_f tH (r3 _ (by decide)) (r3 _ (by decide)), rf_O_f tO (r3 _ (by decide)), rf_T_f tT (r3 _ (by decide)), r2, ?_, ?_, ?_⟩ R' htt⟩
        · unfold cl_C; rw [c3 81 (by decide)]; exact sC
        · rw [c3 94 (by decide)]; exact sL
        · unfold cl_D; rw [c3 92 (by decide), c3 93 (by decide)]; exact sD
        · unfold rf_C; rw [r3 98 (by decide)]; exact tC
        · rw [r4 24 (by decide)]; exact tL
        · unfold rf_D; rw [r4 25 (by decide), r3 116 (by decide)]; exact tD
      · have m2 : m = 20 := by omega
        subst m2
        exact ⟨0, M, N, by rw [e62, if_neg (by decide)], by rw [e154, if_pos (by rfl)], H', fun _ _ => rfl, fun _ _ => rfl⟩
    · refine ⟨0, M, N, ?_, ?_, H', fun _ _ => rfl, fun _ _ => rfl⟩
      · unfold fd_62
        rw [f63, Option.bind_some, if_neg pu_10, f64]
        by_cases h0 : y < 0
        · rw [if_pos h0]; rfl
        · rw [if_neg h0]
          unfold fd_64_25
          rw [if_pos ((pu_no (by omega) hy).resolve_left h0)]; rfl
      · rw [f154]
        unfold fd_154_32
        rw [sp_148_no (by omega) hy]; rfl
  · refine ⟨0, M, N, ?_, ?_, H', fun _ _ => rfl, fun _ _ => rfl⟩
    · unfold fd_62
      rw [sp_63_no n4 hx hM0]
      rfl
    · unfold fd_154
      rw [hN0, sp_148_no (by omega) hx]
      rfl
end
