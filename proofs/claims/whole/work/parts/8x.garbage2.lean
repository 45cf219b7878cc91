/-! garbage, on both sides at once -/
section
variable {M M' N N' : am_M} {n T : Nat} {Bd : Int} {pl : Nat → Nat → Option Nat} {ow : Nat → Option Nat} {ct : Nat → Nat → Int} {q : ct_Q} {m : Nat} {lo : Nat → Option Nat} {a b nf : Nat} {pr : Nat → Nat} {t : ty_T}
theorem sy_ms (R : sy_R a b n nf pr t pl ow ct q m lo Bd) (hnf : nf ≤ 6) (hpr : ∀ b, b < nf → pr b < 6) : ms_k pl q pr m n nf := by
  obtain ⟨_, h2, h3, h4, h5, h6, h7, h8, h9, ⟨k1, k2, k3, k4, k5⟩, h11⟩ := R
  exact ⟨k1, hnf, h9, hpr, fun i hi => ⟨(k2 i hi).1, (k2 i hi).2.1, (k2 i hi).2.2.1⟩, k5⟩
theorem jo_garbage : jo_g fd_126 fd_181 n Bd T Bd T := by
  intro M N H
  obtain ⟨n1, n4, hM0, hM94, hN0, hB0, bg, op, pr, ln, cd, hok, hZ, hP, a0, b0, pl, ow, ct, q, m, ce, lo, ls, sh, tt, hS, hT, R, htt⟩ := H
  have hfle : pg_f bg op ≤ bg := by unfold pg_f; split <;> omega
  have b6 := hok.1
  have hk := sy_ms R (by omega) (fun b hb => (hok.2 b (by omega)).2.1)
  have hpr : ∀ b, b < pg_f bg op → st_sn (pr b) = true := fun b hb => (hok.2 b (by omega)).1
  have ho4 : ∀ o a, ow o = some a → a < 4 := fun o a' e => by have := (R.2.2.2.2.2.2.2.1 o a' e).1; omega
  have hw : ∀ h k t, h < 20 → pl h k = some t → t < 16 := fun h k t h1 h2 => (R.2.2.2.2.1 h k t h1 h2).1
  have h6 : ∀ h k t, h < 16 → pl h k = some t → k < 6 := fun h k t h1 h2 => (R.2.2.2.2.1 h k t (by omega) h2).2
  obtain ⟨sH, sO, sT, sQ, sC, sL, sD⟩ := id hS
  obtain ⟨tH, tO, tT, tQ, tC, tL, tD⟩ := id hT
  have m20 := sQ.2.1
  obtain ⟨M1, c1, c2, c3⟩ := cs_76 M
  obtain ⟨M2, mb2, w2, z2, d1, d2, d3, d4⟩ := cs_126_9 (ow := ow) hk hw n 0 1000 M1 _ _ _ _ (by omega) (by omega) (by rw [c3 0 (by decide)]; exact hM0) c2 (cl_H_f sH (c3 _ (by decide))) (cl_Q_f sQ (c3 _ (by decide)) (c3 _ (by decide)) (c3 _ (by decide)) (c3 _ (by decide)) (c3 _ (by decide))) (fun b hb => by rw [c3 _ (by simp; omega)]; exact (hZ.1.2.2 b (by omega)).1) mt_R_0
  have fM := fr_tr c3 d3
  obtain ⟨N1, r1, r2, r3⟩ := rs_158 N
  obtain ⟨N2, s2, u1, u2, u3, u4⟩ := rs_181_6 hw n4 n 0 1000 N1 (fun _ => false, fun _ => false) _ (by omega) (by omega) (by rw [r3 96 (by decide)]; exact hN0) r2 (rf_H_f tH (r3 _ (by decide)) (r3 _ (by decide))) rt_R_0
  have fN1 := fr_tr r3 u3
  obtain ⟨N3, s3, v1, v2, v3, v4⟩ := rs_181_27 hk m 0 1000 N2 s2 _ (by omega) (by omega) u2 (rf_Q_f tQ (by rw [fN1 96 (by decide)]) (fN1 _ (by decide)) (fN1 _ (by decide)) (fN1 _ (by decide)) (fN1 _ (by decide))) (fun b hb => by rw [fN1 _ (by decide)]; exact (hP.2.2 b (by omega)).1) u4
  have fN := fr_tr fN1 v3
  -- the roots of both
  have hRc : mt_R mb2 (fun t c => (∃ a, a < n ∧ c < 6 ∧ pl (16 + a) c = some t) ∨ mt_D pl q pr m 0 t c) := mt_R_eq d4 (fun o c => by
    constructor
    · rintro (h | ⟨a, h1, h2, h3 | ⟨i, h3, h4, h5, h6, h7⟩⟩)
      · exact h.elim
      · exact Or.inl ⟨a, h2, h3.2⟩
      · exact Or.inr ⟨i, h3, h4, h5, h7⟩
    · rintro (⟨a, h1, h2⟩ | ⟨i, h3, h4, h5, h7⟩)
      · exact Or.inr ⟨a, by omega, h1, Or.inl ⟨by omega, h2⟩⟩
      · exact Or.inr ⟨(q i).2.1, by omega, (hk.2.2.2.2.1 i h4).2.1, Or.inr ⟨i, h3, h4, h5, rfl, h7⟩⟩)
  have hRr : rt_R s3 (fun t c => (∃ a, a < n ∧ c < 6 ∧ pl (16 + a) c = some t) ∨ mt_D pl q pr m 0 t c) := rt_R_eq v4 (fun o c => by
    constructor
    · rintro ((h | ⟨a, h1, h2, h3, h4⟩) | h)
      · exact h.elim
      · exact Or.inl ⟨a, h2, h4⟩
      · exact Or.inr h
    · rintro (⟨a, h1, h2⟩ | h)
      · exact Or.inl (Or.inr ⟨a, by omega, h1, by omega, h2⟩)
      · exact Or.inr h)
  obtain ⟨cl, hcl, _⟩ := sy_bits (gh_C1 pl (fun t c => (∃ a, a < n ∧ c < 6 ∧ pl (16 + a) c = some t) ∨ mt_D pl q pr m 0 t c))
  obtain ⟨M3, g1, g2, g3⟩ := cs_clo (ow := ow) hw h6 d2 (cl_H_f sH (fM _ (by decide))) hRc (fun t c h => by
    rcases h with ⟨a, _, h, _⟩ | ⟨i, h1, h2, h3, h4, h5⟩
    · exact h
    · rw [h5]; exact hk.2.2.2.1 _ ((hk.2.2.2.2.1 i h2).2.2 h3)) (fun p hp ⟨t, c, h, c5, hd⟩ => by
    rcases h with ⟨a, h1, h2, h3⟩ | ⟨i, h1, h2, h3, h4, h5⟩
    · exact sy_kd R (by omega) c5 h3 hd
    · exact sy_md R hpr h2 h3 h4 (by omega) hd) hcl
  obtain ⟨N4, p1, p2, p3⟩ := rs_clo hw h6 v2 (rf_H_f tH (fN _ (by decide)) (fN _ (by decide))) hRr hcl
  have fM3 := fr_tr fM g3
  have fN4 := fr_tr fN p3
  refine ⟨nI (0 + ab_gc cl ow 16 0), M3, N4, ?_, ?_, jo_cl n1 n4 hM0 hM94 hN0 hB0 hok hZ hP (fr_q_of fM3 (by decide)) (fr_n_of fN4 (fs_of (L := []) fN4 (by decide)) (by decide) (by decide)) (cl_S_f hS (fun x _ _ h1 h2 h3 => fM3 x (by simp; omega))) (rf_S_f hT (fun x hx => fN4 x (by simp; omega)) (fun s _ => by rw [fN4 96 (by decide)])) R htt⟩
  · unfold fd_126
    rw [c1, Option.bind_some, show fd_126_9 1000 (0 : Int32) M1 = _ from d1, g1, Option.bind_some]
    exact cs_126_50 ho4 (cl_O_f sO (fM3 _ (by decide))) g2 16 0 1000 0 (by omega) (by omega)
  · unfold fd_181
    rw [r1, Option.bind_some, show fd_181_6 1000 (0 : Int32) N1 = _ from u1, show fd_181_27 1000 (0 : Int32) N2 = _ from v1, p1, Option.bind_some]
    exact rs_181_79 ho4 (rf_O_f tO (fN4 _ (by decide))) p2 16 0 1000 0 (by omega) (by omega)
end
