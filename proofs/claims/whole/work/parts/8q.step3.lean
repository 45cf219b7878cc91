/-! step, on both sides at once -/
section
variable {M M' N N' : am_M} {pl pl' : Nat → Nat → Option Nat} {ow : Nat → Option Nat} {ct ct' : Nat → Nat → Int} {q : ct_Q} {m : Nat} {ce : Nat → Int32} {lo : Nat → Option Nat} {ls : Int32} {sh : Nat → Int32} {tt : Nat} {a b n bg r : Nat} {op : Bool} {pr ln : Nat → Nat} {cd : Nat → Nat → Nat → Int32} {Bd Bd' : Int} {T T' : Nat}
theorem jo_step (x : Int32) (hB : Bd < 890000) (hTt : T < 80000) : jo_g (fd_67 x) (fd_156 x) n Bd T (Bd + 151) (T + 10) := by
  intro M N H
  have H' := H
  obtain ⟨n1, n4, hM0, hM94, hN0, hB0, bg, op, pr, ln, cd, hok, hZ, hP, a0, b0, pl, ow, ct, q, m, ce, lo, ls, sh, tt, hS, hT, R, htt⟩ := H
  have hmsg := R.2.2.2.2.2.2.2.2.2.1
  by_cases hx : pu_is x n
  · obtain ⟨a, ha, rfl⟩ := hx
    have hto : ∀ i, i < m → (q i).2.1 < 4 := fun i hi => by have := (hmsg.2.1 i hi).2.1; omega
    have e67 : fd_67 (nI a) M = (fd_68 (nI a) M).bind fun q4 => some (q4.1, q4.2) := by
      unfold fd_67
      rw [sp_63 n4 ha hM0, Option.bind_some, if_neg pu_10]
    rcases jo_first (fun i => (q i).2.1) a m with ⟨r, hr, hf, hw⟩ | hno
    · have kq := hmsg.2.1 r hr
      have hI := R.2.2.2.2.2.1
      have ho4 : ∀ o a, ow o = some a → a < 4 := fun o a' e => by have := (R.2.2.2.2.2.2.2.1 o a' e).1; omega
      obtain ⟨sH, sO, sT, sQ, sC, sL, sD⟩ := hS
      obtain ⟨tH, tO, tT, tQ, tC, tL, tD⟩ := hT
      have c68 := cs_68 (by omega) sQ hto hr hf hw kq.1
      have r156 := rs_156 (by omega) tQ hto hr hf hw kq.1 (fun h => (hI.2.1 r hr h).1)
      obtain ⟨M1, m1, m2, m3⟩ := cs_73 sQ hr
      obtain ⟨N1, p1, p2, p3, p4⟩ := rs_157 tQ hr
      have sH1 : cl_H M1 (ab_rpl r pl) ow := cl_H_pl (cl_H_f sH (m3 _ (by decide))) (fun x k hx => ab_rpl_o (by omega))
      have tH1 : rf_H N1 (ab_rpl r pl) := rf_H_pl (rf_H_f tH (p3 _ (by decide)) (p3 _ (by decide))) (fun x k hx => ab_rpl_o (by omega))
      have sC1 : cl_C M1 ow ce := by unfold cl_C; rw [m3 81 (by decide)]; exact sC
      have tC1 : rf_C N1 ce := by unfold rf_C; rw [p3 98 (by decide)]; exact tC
      have sL1 : M1 94 7 = ls := by rw [m3 94 (by decide)]; exact sL
      have tL1 : N1 96 24 = ls := by rw [p4 24 (by decide)]; exact tL
      have sD1 : cl_D M1 sh tt := by unfold cl_D; rw [m3 92 (by decide), m3 93 (by decide)]; exact sD
      have tD1 : rf_D N1 sh tt := by unfold rf_D; rw [p4 25 (by decide), p3 116 (by decide)]; exact tD
      have q1 : fr_q M M1 := fr_q_of m3 (by decide)
      have k1 : fr_n N N1 := fr_n_of p3 p4 (by decide) (by decide)
      rw [m1, Option.bind_some] at c68
      rw [p1, Option.bind_some] at r156
      by_cases k0 : (q r).1 = 0
      · rw [if_pos k0] at c68 r156
        have hbf := kq.2.2.1 k0
        have hbg : (q r).2.2.1 < bg := by unfold pg_f at hbf; split at hbf <;> omega
        obtain ⟨o1, o2, l10, o4⟩ := hok.2 _ hbg
        have hpr : ∀ b, b < pg_f bg op → st_sn (pr b) = true := fun b hb => (hok.2 b (by unfold pg_f at hb; split at hb <;> omega)).1
        have b6 := hok.1
        obtain ⟨⟨g, V, J⟩, hL20, hlo, hz22, h5, h6, h7, h8, h9, ⟨_, k2, k3, k4, k5⟩, h11⟩ := id R
        obtain ⟨b', R1⟩ := sy_call R hpr ha hr hf hw k0
        have hw20 : ∀ h k t, h < 20 → ab_rpl r pl h k = some t → t < 16 := fun h k t hh e => by rw [ab_rpl_o (by omega)] at e; exact (h5 h k t hh e).1
        have hw6 : ∀ p k t, p < 16 → ab_rpl r pl p k = some t → k < 6 := fun p k t hp e => by rw [ab_rpl_o (by omega)] at e; exact (h5 p k t (by omega) e).2
        have dpe : ∀ t p, gh_dp (ab_rpl r pl) t p ↔ gh_dp pl t p := fun t p => gh_dp_eq (fun p k _ hp => ab_rpl_o (by omega))
        have cle : ∀ t c o, gh_cl (ab_rpl r pl) t c o ↔ gh_cl pl t c o := fun t c o => gh_cl_eq (fun _ p k _ hp => ab_rpl_o (by omega))
        have hcl : ∀ o, o < 16 → ((q r).2.2.2.2 o = true ↔ ∃ t, pl 21 r = some t ∧ gh_cl (ab_rpl r pl) t (pr (q r).2.2.1) o) := fun o ho => by
          rw [k3 r o hr k0 ho]
          constructor
          · rintro ⟨v, g1, g2⟩; exact ⟨v, g1, (cle _ _ _).mpr g2⟩
          · rintro ⟨v, g1, g2⟩; exact ⟨v, g1, (cle _ _ _).mp g2⟩
        obtain ⟨M2, M3, d1, d2, d3, d4, d5⟩ := cs_one hw20 hw6 (fun t e => k5 r t e) o2 sH1 (fun t p e c5 hp hd => (gh_msg J e (by rfl) (by unfold sy_cb; simpa using sy_sn o1 c5) ((dpe t p).mp hd)).2) hcl
        obtain ⟨M4, f1, f2, f3⟩ := cs_74_26 (cl := (q r).2.2.2.2) ho4 (show a < 4 by omega) 16 0 1000 ct M3 (by omega) (by omega) (cl_O_f (cl_O_f sO (m3 _ (by decide))) (d5 _ (by decide))) d3 (cl_T_f (cl_T_f sT (m3 _ (by decide))) (d5 _ (by decide)))
        obtain ⟨N2, N3, N4, u1, u2, u3, u4, u5, u6, u7⟩ := rs_one hw20 hw6 (fun t e => k5 r t e) o2 tH1 hcl
        obtain ⟨N5, v1, v2, v3⟩ := rs_156_138 (cl := (q r).2.2.2.2) ho4 (show a < 4 by omega) (nI (q r).2.2.1) (en_o (pl 21 r)) 16 0 1000 ct N4 (by omega) (by omega) (rf_O_f (rf_O_f tO (p3 _ (by decide))) (u7 _ (by decide))) u4 (rf_T_f (rf_T_f tT (p3 _ (by decide))) (u7 _ (by decide)))
        obtain ⟨N6, w1, w2, w3⟩ := rs_156_195 (a := a) (nI (q r).2.2.1) (en_o (pl 21 r)) 6 0 1000 N5 (by omega) (by omega) (fun x hx => by omega)
        have q2 : fr_q M M4 := fr_q_tr q1 (fr_q_tr (fr_q_of d5 (by decide)) (fr_q_of f3 (by decide)))
        have n2 : fr_ [100, 112, 113, 115] N1 N6 := fr_tr (fr_up u7 (by decide)) (fr_tr (fr_up v3 (by decide)) (fr_up w3 (by decide)))
        have k2' : fr_n N N6 := fr_n_tr k1 (fr_n_of n2 (fs_of (L := []) n2 (by decide)) (by decide) (by decide))
        have n4' : fr_ [83, 89, 90, 91] M1 M4 := fr_tr (fr_up d5 (by decide)) (fr_up f3 (by decide))
        -- the class's memory when the behaviour begins
        have e7 : ∃ M5, fd_7 95 6 (-1 : Int32) M4 = some M5 ∧ fr_ [95] M4 (ds_w M5 95 0 (en_o (pl 21 r))) ∧ cl_L (ds_w M5 95 0 (en_o (pl 21 r))) (fun x => if x = 0 then pl 21 r else none) := by
          refine ⟨_, rfl, fr_w (fun h hh => am_set_n _ _ (fun e => hh (by rw [e]; decide))) (by decide), fun x hx => ?_⟩
          by_cases e : x = 0
          · subst e; rw [dw_s]; rfl
          · rw [dw_n _ _ e, am_set_s, if_pos hx]; simp [e]; rfl
        obtain ⟨M5, y1, y2, y3⟩ := e7
        have q3 : fr_q M (ds_w M5 95 0 (en_o (pl 21 r))) := fr_q_tr q2 (fr_q_of y2 (by decide))
        have n5' : fr_ [83, 89, 90, 91, 95] M1 (ds_w M5 95 0 (en_o (pl 21 r))) := fr_tr (fr_up n4' (by decide)) (fr_up y2 (by decide))
        have S5 : cl_S (ds_w M5 95 0 (en_o (pl 21 r))) (gh_u (ab_rpl r pl) 20 0 (pl 21 r)) ow (ab_tu 0 (q r).2.2.2.2 ow a ct) (ct_rm q r) (m - 1) ce ls sh tt := by
          refine cl_S_pl (pl := ab_rpl r pl) ⟨cl_H_f sH1 (n5' _ (by decide)), cl_O_f sO ((n5' _ (by decide)).trans (m3 _ (by decide))), cl_T_f f2 (y2 _ (by decide)), cl_Q_f m2 (n5' _ (by decide)) (n5' _ (by decide)) (n5' _ (by decide)) (n5' _ (by decide)) (n5' _ (by decide)), ?_, ?_, ?_⟩ (fun x k hx => sy_u20 (by omega))
          · unfold cl_C; rw [n5' 81 (by decide)]; exact sC1
          · rw [n5' 94 (by decide)]; exact sL1
          · unfold cl_D; rw [n5' 92 (by decide), n5' 93 (by decide)]; exact sD1
        have T5 : rf_S N6 (gh_u (ab_rpl r pl) 20 0 (pl 21 r)) ow (ab_tu 0 (q r).2.2.2.2 ow a ct) (ct_rm q r) (m - 1) ce ls sh tt := by
          refine rf_S_pl (pl := ab_rpl r pl) ⟨rf_H_f tH1 (n2 _ (by decide)) (n2 _ (by decide)), rf_O_f tO ((n2 _ (by decide)).trans (p3 _ (by decide))), rf_T_f v2 (w3 _ (by decide)), rf_Q_f p2 (by rw [n2 96 (by decide)]) (n2 _ (by decide)) (n2 _ (by decide)) (n2 _ (by decide)) (n2 _ (by decide)), ?_, ?_, ?_⟩ (fun x k hx => sy_u20 (by omega))
          · unfold rf_C; rw [n2 98 (by decide)]; exact tC1
          · rw [n2 96 (by decide)]; exact tL1
          · unfold rf_D; rw [n2 96 (by decide), n2 116 (by decide)]; exact tD1
        have L6 : rf_L N6 (fun x => if x = 0 then pl 21 r else none) := fun x hx => by
          rw [w2 x hx]
          by_cases e : x = 0
          · simp [e]
          · simp [e]; rfl
        obtain ⟨M', N', b2, pl2, ow2, ct2, q2', m2', ce2, lo2, ls2, sh2, tt2, z1, z2, z3, z4, z5, z6, z7, z8⟩ := ex_run hok hbf ha (ln (q r).2.2.1) 0 1000 _ N6 b' _ ow _ _ _ ce _ ls sh tt (Bd + 1) (by omega) (by omega) S5 T5 y3 L6 R1 (cl_P_q hok hZ.1 q3) (rf_P_n hP k2') (by rw [q3.2]; exact hM94) (by rw [k2'.2 0 (by decide) (by decide) (by decide)]; exact hN0) (by omega) (by omega) (by omega)
        obtain ⟨b3, R3⟩ := sy_end (lo' := lo2) a z5 z5.2.2.1
        refine ⟨nI (q r).1, M', N', ?_, ?_, jo_cl n1 n4 hM0 hM94 hN0 (by omega) hok hZ hP (fr_q_tr q3 z6) (fr_n_tr k2' z7) (cl_S_pl z3 (fun x k hx => if_neg (by omega))) (rf_S_pl z4 (fun x k hx => if_neg (by omega))) (sy_R_B R3 (by omega)) (by omega)⟩
        · rw [e67, c68]
          unfold fd_74 fd_43 fd_44
          simp (disch := omega) only [pu_cl, pu_g2]
          simp only [Option.bind_some]
          rw [q1.1 _ (by omega), (hZ.1.2.2 _ hbg).1, d1, Option.bind_some, d2, Option.bind_some]
          rw [show fd_74_26 1000 (nI a) (0 : Int32) M3 = _ from f1, Option.bind_some]
          unfold fd_83 fd_84
          simp (disch := omega) only [pu_cl, pu_g2]
          simp only [Option.bind_some]
          rw [y1, Option.bind_some, if_neg (by decide), show (0 : Int32).toNatClampNeg = 0 from rfl]
          rw [show fd_84_18 1000 (nI a) (7 + 12 * (q r).2.2.1) (0 : Int32) _ = _ from z1]
          rfl
        · rw [r156, u1, Option.bind_some]
          simp (disch := omega) only [pu_cl, pu_g2]
          rw [u5 102 (by decide), k1.1 102 (by simp), (hP.2.2 _ hbg).1, u2, Option.bind_some, u3, Option.bind_some]
          rw [show fd_156_138 1000 (nI a) (nI (q r).2.2.1) (en_o (pl 21 r)) (0 : Int32) N4 = _ from v1]
          rw [show fd_156_195 1000 (nI a) (nI (q r).2.2.1) (en_o (pl 21 r)) (0 : Int32) N5 = _ from w1]
          rw [show fd_156_227 1000 (nI a) (nI (q r).2.2.1) (0 : Int32) N6 = _ from z2, k0]
          rfl
      · rw [if_neg k0] at c68 r156
        have o16 := (hI.2.1 r hr k0).1
        have R1 := sy_rl R ha hr hf hw k0
        have fin : ∀ (d : Int), d = (if (q r).1 = 1 then (q r).2.2.2.1 else - (q r).2.2.2.1) → fd_68 (nI a) M = fd_68_105 (nI (q r).1) (nI a) (nI (q r).2.2.1) (en_i d) M1 → fd_156 (nI a) N = some (nI (q r).1, ds_w N1 100 (16 * a + (q r).2.2.1) (en_i (ct a (q r).2.2.1 + d))) → ∃ r M' N', fd_67 (nI a) M = some (r, M') ∧ fd_156 (nI a) N = some (r, N') ∧ jo_W n (Bd + 151) (T + 10) M' N' ∧ (∀ h, 96 ≤ h → M' h = M h) ∧ ∀ h, h < 96 → N' h = N h := by
          intro d hd g1 g2
          rw [← hd] at R1
          obtain ⟨M2, d1, d2, d3⟩ := cs_82 (show a < 4 by omega) o16 (cl_T_f sT (m3 83 (by decide))) (v := en_i d) rfl
          have n2 : fr_ [100] N1 (ds_w N1 100 (16 * a + (q r).2.2.1) (en_i (ct a (q r).2.2.1 + d))) := fr_w (fr_refl _ _) (by decide)
          refine ⟨nI (q r).1, M2, _, ?_, g2, jo_cl (pl' := ab_rpl r pl) (tt' := tt) (sh' := sh) (ls' := ls) (ce' := ce) (Bd' := Bd + 151) (T' := T + 10) n1 n4 hM0 hM94 hN0 (by omega) hok hZ hP (fr_q_tr q1 (fr_q_of d3 (by decide))) (fr_n_tr k1 (fr_n_of n2 (fs_of (L := []) n2 (by decide)) (by decide) (by decide))) ⟨cl_H_f sH1 (d3 _ (by decide)), cl_O_f sO ((d3 _ (by decide)).trans (m3 _ (by decide))), d2, cl_Q_f m2 (d3 _ (by decide)) (d3 _ (by decide)) (d3 _ (by decide)) (d3 _ (by decide)) (d3 _ (by decide)), ?_, ?_, ?_⟩ ⟨rf_H_f tH1 (n2 _ (by decide)) (n2 _ (by decide)), rf_O_f tO ((n2 _ (by decide)).trans (p3 _ (by decide))), rf_T_w (rf_T_f tT (p3 _ (by decide))) (by omega) o16 _, rf_Q_f p2 (by rw [n2 96 (by decide)]) (n2 _ (by decide)) (n2 _ (by decide)) (n2 _ (by decide)) (n2 _ (by decide)), ?_, ?_, ?_⟩ (sy_R_B R1 (by omega)) (by omega)⟩
          · rw [e67, g1]
            unfold fd_68_105
            rw [d1]; rfl
          · unfold cl_C; rw [d3 81 (by decide)]; exact sC1
          · rw [d3 94 (by decide)]; exact sL1
          · unfold cl_D; rw [d3 92 (by decide), d3 93 (by decide)]; exact sD1
          · unfold rf_C; rw [n2 98 (by decide)]; exact tC1
          · rw [n2 96 (by decide)]; exact tL1
          · unfold rf_D; rw [n2 96 (by decide), n2 116 (by decide)]; exact tD1
        have tv : N1 100 (16 * a + (q r).2.2.1) = en_i (ct a (q r).2.2.1) := by rw [p3 100 (by decide)]; exact tT a _ (by omega) o16
        by_cases k1 : (q r).1 = 1
        · rw [if_pos k1] at c68 r156
          refine fin (q r).2.2.2.1 (by rw [if_pos k1]) c68 ?_
          rw [r156, tv, en_i_add]
        · rw [if_neg k1] at c68 r156
          refine fin (- (q r).2.2.2.1) (by rw [if_neg k1]) (by rw [c68, en_i_neg]) ?_
          rw [r156, tv, show ct a (q r).2.2.1 + - (q r).2.2.2.1 = ct a (q r).2.2.1 - (q r).2.2.2.1 by omega, en_i_sub]
    · have m20 := hS.2.2.2.1.2.1
      refine ⟨-1, M, N, ?_, ?_, jo_W_b H' (by omega) (by omega), fun _ _ => rfl, fun _ _ => rfl⟩
      · rw [e67]
        unfold fd_68 fd_69
        rw [show fd_69_2 1000 (nI a) (0 : Int32) M = _ from ((cs_69_2 (by omega) hS.2.2.2.1 hto m 0 1000 (by omega) (by omega)).2 (fun i _ h => hno i h))]
        rfl
      · exact rs_156_n hT.2.2.2.1 (fun i hi g => hno i hi ((en_nI (by have := hto i hi; omega) (by omega)).mp g)) m 0 1000 (by omega) (by omega)
  · have m20 := hS.2.2.2.1.2.1
    refine ⟨-1, M, N, ?_, ?_, jo_W_b H' (by omega) (by omega), fun _ _ => rfl, fun _ _ => rfl⟩
    · unfold fd_67
      rw [sp_63_no n4 hx hM0]
      rfl
    · exact rs_156_n hT.2.2.2.1 (fun i hi g => hx ⟨_, (hmsg.2.1 i hi).2.1, g.symm⟩) m 0 1000 (by omega) (by omega)
end
