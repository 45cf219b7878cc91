/-! garbage -/
def mt_C (pl : Nat → Nat → Option Nat) (q : ct_Q) (pr : Nat → Nat) (m a j t c : Nat) : Prop := ∃ i, j ≤ i ∧ i < m ∧ (q i).1 = 0 ∧ (q i).2.1 = a ∧ pl 21 i = some t ∧ c = pr (q i).2.2.1
def mt_D (pl : Nat → Nat → Option Nat) (q : ct_Q) (pr : Nat → Nat) (m j t c : Nat) : Prop := ∃ i, j ≤ i ∧ i < m ∧ (q i).1 = 0 ∧ pl 21 i = some t ∧ c = pr (q i).2.2.1
/-- what is known of the messages when they are met -/
def ms_k (pl : Nat → Nat → Option Nat) (q : ct_Q) (pr : Nat → Nat) (m n nf : Nat) : Prop := m ≤ 20 ∧ nf ≤ 6 ∧ n ≤ 4 ∧ (∀ b, b < nf → pr b < 6) ∧ (∀ i, i < m → (q i).1 < 3 ∧ (q i).2.1 < n ∧ ((q i).1 = 0 → (q i).2.2.1 < nf)) ∧ ∀ i v, pl 21 i = some v → v < 16
section
variable {pl : Nat → Nat → Option Nat} {ow : Nat → Option Nat} {q : ct_Q} {pr : Nat → Nat} {m n nf a : Nat} {cl : Nat → Bool}
/-- meetCalls -/
theorem cs_118_2 (hk : ms_k pl q pr m n nf) (ha : a < n) : ∀ (k j f : Nat) (M : am_M) (mb : Nat → Nat → Bool) (w : Nat → Nat) (z : Nat) (R : Nat → Nat → Prop), j + k = m → k < f → cl_wk M mb w z → cl_Q M pl q m → (∀ b, b < nf → M (7 + 12 * b) 1 = nI (pr b)) → mt_R mb R → ∃ (M' : am_M) (mb' : Nat → Nat → Bool) (w' : Nat → Nat) (z' : Nat), fd_118_2 f (nI a) (nI j) M = some M' ∧ cl_wk M' mb' w' z' ∧ fr_ [89, 90, 91] M M' ∧ mt_R mb' (fun t c => R t c ∨ mt_C pl q pr m a j t c)
  | _, _, 0, _, _, _, _, _, _, hf, _, _, _, _ => by omega
  | 0, j, f + 1, M, mb, w, z, R, hj, _, H, hQ, hp, hR => by
    have m20 := hk.1
    refine ⟨M, mb, w, z, ?_, H, fr_refl _ _, mt_R_eq hR (fun o c => ⟨Or.inl, fun h => h.resolve_right (fun ⟨i, h1, h2, _⟩ => by omega)⟩)⟩
    rw [un_118_2]
    unfold fd_119
    rw [Option.bind_some, hQ.1, pu_end (by omega) (by omega)]
  | k + 1, j, f + 1, M, mb, w, z, R, hj, hf, H, hQ, hp, hR => by
    obtain ⟨m20, nf6, n4, pr6, hq, h21⟩ := hk
    obtain ⟨e1, e2, e3, e4⟩ := hQ.2.2 j (by omega)
    obtain ⟨g1, g2, g3⟩ := hq j (by omega)
    rw [un_118_2]
    unfold fd_119
    rw [Option.bind_some, hQ.1, pu_go (by omega) (by omega)]
    unfold fd_120
    simp (disch := omega) only [pu_cl, pu_g2]
    rw [e1, e2]
    unfold fd_118_55
    by_cases c1 : (q j).1 = 0 ∧ (q j).2.1 = a
    · obtain ⟨k0, ka⟩ := c1
      have bn := g3 k0
      rw [if_pos (show nI (q j).1 = 0 by rw [k0]; rfl), if_pos (by rw [ka]), Option.bind_some, if_neg pu_10]
      unfold fd_71 fd_72
      simp (disch := omega) only [pu_cl, pu_g2]
      rw [Option.bind_some, Option.bind_some]
      simp only []
      rw [e3, e4, if_pos k0, if_pos k0]
      unfold fd_43 fd_44
      simp (disch := omega) only [pu_cl, pu_g2]
      rw [Option.bind_some, Option.bind_some, hp _ bn]
      obtain ⟨M1, w1, z1, f1, f2, f3, _, _⟩ := cs_77 (v := pl 21 j) (c := pr (q j).2.2.1) (h21 j) (pr6 _ bn) H
      rw [f1, Option.bind_some, nI_1]
      obtain ⟨M2, mb2, w2, z2, p1, p2, p3, p4⟩ := cs_118_2 ⟨m20, nf6, n4, pr6, hq, h21⟩ ha k (j + 1) f M1 _ w1 z1 _ (by omega) (by omega) f2 (cl_Q_f hQ (f3 _ (by decide)) (f3 _ (by decide)) (f3 _ (by decide)) (f3 _ (by decide)) (f3 _ (by decide))) (fun b hb => by rw [f3 _ (by simp; omega)]; exact hp b hb) (mt_R_mt hR _ _)
      refine ⟨M2, mb2, w2, z2, p1, p2, fr_tr f3 p3, mt_R_eq p4 (fun o c => ?_)⟩
      constructor
      · rintro ((h | ⟨h, h'⟩) | ⟨i, h1, h2, h3⟩)
        · exact Or.inl h
        · exact Or.inr ⟨j, Nat.le_refl _, by omega, k0, ka, h, h'⟩
        · exact Or.inr ⟨i, by omega, h2, h3⟩
      · rintro (h | ⟨i, h1, h2, h3, h4, h5, h6⟩)
        · exact Or.inl (Or.inl h)
        · by_cases e : i = j
          · subst e; exact Or.inl (Or.inr ⟨h5, h6⟩)
          · exact Or.inr ⟨i, by omega, h2, h3, h4, h5, h6⟩
    · have e5 : (if nI (q j).1 = 0 then if nI (q j).2.1 = nI a then some ((1 : Int32), M) else some (0, M) else some (0, M)) = some ((0 : Int32), M) := by
        by_cases k0 : (q j).1 = 0
        · rw [if_pos (show nI (q j).1 = 0 by rw [k0]; rfl), if_neg (fun g => c1 ⟨k0, (en_nI (by omega) (by omega)).mp g⟩)]
        · rw [if_neg (show ¬ nI (q j).1 = 0 from fun g => k0 ((en_nI (t := 0) (by omega) (by omega)).mp g))]
      rw [e5, Option.bind_some, if_pos rfl, nI_1]
      obtain ⟨M2, mb2, w2, z2, p1, p2, p3, p4⟩ := cs_118_2 ⟨m20, nf6, n4, pr6, hq, h21⟩ ha k (j + 1) f M mb w z R (by omega) (by omega) H hQ hp hR
      refine ⟨M2, mb2, w2, z2, p1, p2, p3, mt_R_eq p4 (fun o c => ?_)⟩
      constructor
      · rintro (h | ⟨i, h1, h2, h3⟩)
        · exact Or.inl h
        · exact Or.inr ⟨i, by omega, h2, h3⟩
      · rintro (h | ⟨i, h1, h2, h3, h4, h5⟩)
        · exact Or.inl h
        · by_cases e : i = j
          · subst e; exact absurd ⟨h3, h4⟩ c1
          · exact Or.inr ⟨i, by omega, h2, h3, h4, h5⟩
/-- all actors are met -/
theorem cs_126_9 (hk : ms_k pl q pr m n nf) (hw : ∀ h k t, h < 20 → pl h k = some t → t < 16) : ∀ (k j f : Nat) (M : am_M) (mb : Nat → Nat → Bool) (w : Nat → Nat) (z : Nat) (R : Nat → Nat → Prop), j + k = n → k < f → M 0 0 = nI n → cl_wk M mb w z → cl_H M pl ow → cl_Q M pl q m → (∀ b, b < nf → M (7 + 12 * b) 1 = nI (pr b)) → mt_R mb R → ∃ (M' : am_M) (mb' : Nat → Nat → Bool) (w' : Nat → Nat) (z' : Nat), fd_126_9 f (nI j) M = ((fd_78 M').bind fun q2 => fd_126_50 1000 (0 : Int32) (0 : Int32) q2) ∧ cl_wk M' mb' w' z' ∧ fr_ [89, 90, 91] M M' ∧ mt_R mb' (fun t c => R t c ∨ ∃ a, j ≤ a ∧ a < n ∧ ((0 ≤ c ∧ c < 6 ∧ pl (16 + a) c = some t) ∨ mt_C pl q pr m a 0 t c))
  | _, _, 0, _, _, _, _, _, _, hf, _, _, _, _, _, _ => by omega
  | 0, j, f + 1, M, mb, w, z, R, hj, _, h0, H, hH, hQ, hp, hR => by
    have n4 := hk.2.2.1
    refine ⟨M, mb, w, z, ?_, H, fr_refl _ _, mt_R_eq hR (fun o c => ⟨Or.inl, fun h => h.resolve_right (fun ⟨a, h1, h2, _⟩ => by omega)⟩)⟩
    rw [un_126_9, h0, pu_end (by omega) (by omega)]
  | k + 1, j, f + 1, M, mb, w, z, R, hj, hf, h0, H, hH, hQ, hp, hR => by
    have n4 := hk.2.2.1
    rw [un_126_9, h0, pu_go (by omega) (by omega)]
    obtain ⟨M1, mb1, w1, z1, e1, e2, e3, e4⟩ := cs_105_2 hw (show j < 4 by omega) 6 0 1000 M mb w z R (by omega) (by omega) H hH hR
    unfold fd_105 fd_118
    rw [show fd_105_2 1000 (nI j) (0 : Int32) M = _ from e1, Option.bind_some]
    obtain ⟨M2, mb2, w2, z2, f1, f2, f3, f4⟩ := cs_118_2 (a := j) hk (by omega) m 0 1000 M1 mb1 w1 z1 _ (by omega) (by have := hk.1; omega) e2 (cl_Q_f hQ (e3 _ (by decide)) (e3 _ (by decide)) (e3 _ (by decide)) (e3 _ (by decide)) (e3 _ (by decide))) (fun b hb => by have := hk.2.1; rw [e3 _ (by simp; omega)]; exact hp b hb) e4
    rw [show fd_118_2 1000 (nI j) (0 : Int32) M1 = _ from f1, Option.bind_some, nI_1]
    have fr2 := fr_tr e3 f3
    obtain ⟨M3, mb3, w3, z3, g1, g2, g3, g4⟩ := cs_126_9 hk hw k (j + 1) f M2 mb2 w2 z2 _ (by omega) (by omega) (by rw [fr2 0 (by decide)]; exact h0) f2 (cl_H_f hH (fr2 _ (by decide))) (cl_Q_f hQ (fr2 _ (by decide)) (fr2 _ (by decide)) (fr2 _ (by decide)) (fr2 _ (by decide)) (fr2 _ (by decide))) (fun b hb => by have := hk.2.1; rw [fr2 _ (by simp; omega)]; exact hp b hb) f4
    refine ⟨M3, mb3, w3, z3, g1, g2, fr_tr fr2 g3, mt_R_eq g4 (fun o c => ?_)⟩
    constructor
    · rintro (((h | h) | h) | ⟨a, h1, h2⟩)
      · exact Or.inl h
      · exact Or.inr ⟨j, Nat.le_refl _, by omega, Or.inl h⟩
      · exact Or.inr ⟨j, Nat.le_refl _, by omega, Or.inr h⟩
      · exact Or.inr ⟨a, by omega, h2⟩
    · rintro (h | ⟨a, h1, h2, h3⟩)
      · exact Or.inl (Or.inl (Or.inl h))
      · by_cases e : a = j
        · subst e
          rcases h3 with h3 | h3
          · exact Or.inl (Or.inl (Or.inr h3))
          · exact Or.inl (Or.inr h3)
        · exact Or.inr ⟨a, by omega, h2, h3⟩
/-- the reference: all calls are roots -/
theorem rs_181_27 (hk : ms_k pl q pr m n nf) : ∀ (k j f : Nat) (N : am_M) (s : (Nat → Bool) × (Nat → Bool)) (R : Nat → Nat → Prop), j + k = m → k < f → rf_wk N s.1 s.2 → rf_Q N pl q m → (∀ b, b < nf → N 102 b = nI (pr b)) → rt_R s R → ∃ (N' : am_M) (s' : (Nat → Bool) × (Nat → Bool)), fd_181_27 f (nI j) N = ((fd_160 N').bind fun q2 => fd_181_79 1000 (0 : Int32) (0 : Int32) q2) ∧ rf_wk N' s'.1 s'.2 ∧ fr_ [112, 113] N N' ∧ rt_R s' (fun t c => R t c ∨ mt_D pl q pr m j t c)
  | _, _, 0, _, _, _, _, hf, _, _, _, _ => by omega
  | 0, j, f + 1, N, s, R, hj, _, H, hQ, hp, hR => by
    have m20 := hk.1
    refine ⟨N, s, ?_, H, fr_refl _ _, rt_R_eq hR (fun o c => ⟨Or.inl, fun h => h.resolve_right (fun ⟨i, h1, h2, _⟩ => by omega)⟩)⟩
    rw [un_181_27, hQ.1, pu_end (by omega) (by omega)]
  | k + 1, j, f + 1, N, s, R, hj, hf, H, hQ, hp, hR => by
    obtain ⟨m20, nf6, n4, pr6, hq, h21⟩ := hk
    obtain ⟨e1, e2, e3, e4⟩ := hQ.2.2 j (by omega)
    obtain ⟨g1, g2, g3⟩ := hq j (by omega)
    rw [un_181_27, hQ.1, pu_go (by omega) (by omega)]
    simp (disch := omega) only [pu_cl, pu_g2]
    rw [e1]
    unfold fd_181_65
    by_cases k0 : (q j).1 = 0
    · have bn := g3 k0
      rw [if_pos (show nI (q j).1 = 0 by rw [k0]; rfl), e3, e4, if_pos k0]
      simp (disch := omega) only [pu_cl, pu_g2]
      rw [hp _ bn]
      obtain ⟨N1, f1, f2, f3⟩ := rs_159 (v := pl 21 j) (c := pr (q j).2.2.1) (s := s) (h21 j) (pr6 _ bn) H
      rw [f1, Option.bind_some, nI_1]
      obtain ⟨N2, s2, p1, p2, p3, p4⟩ := rs_181_27 ⟨m20, nf6, n4, pr6, hq, h21⟩ k (j + 1) f N1 _ _ (by omega) (by omega) f2 (rf_Q_f hQ (by rw [f3 96 (by decide)]) (f3 _ (by decide)) (f3 _ (by decide)) (f3 _ (by decide)) (f3 _ (by decide))) (fun b hb => by rw [f3 _ (by decide)]; exact hp b hb) (rt_R_rt hR _ _)
      refine ⟨N2, s2, p1, p2, fr_tr f3 p3, rt_R_eq p4 (fun o c => ?_)⟩
      constructor
      · rintro ((h | ⟨h, h'⟩) | ⟨i, h1, h2, h3⟩)
        · exact Or.inl h
        · exact Or.inr ⟨j, Nat.le_refl _, by omega, k0, h, h'⟩
        · exact Or.inr ⟨i, by omega, h2, h3⟩
      · rintro (h | ⟨i, h1, h2, h3, h5, h6⟩)
        · exact Or.inl (Or.inl h)
        · by_cases e : i = j
          · subst e; exact Or.inl (Or.inr ⟨h5, h6⟩)
          · exact Or.inr ⟨i, by omega, h2, h3, h5, h6⟩
    · rw [if_neg (show ¬ nI (q j).1 = 0 from fun g => k0 ((en_nI (t := 0) (by omega) (by omega)).mp g)), nI_1]
      obtain ⟨N2, s2, p1, p2, p3, p4⟩ := rs_181_27 ⟨m20, nf6, n4, pr6, hq, h21⟩ k (j + 1) f N s R (by omega) (by omega) H hQ hp hR
      refine ⟨N2, s2, p1, p2, p3, rt_R_eq p4 (fun o c => ?_)⟩
      constructor
      · rintro (h | ⟨i, h1, h2, h3⟩)
        · exact Or.inl h
        · exact Or.inr ⟨i, by omega, h2, h3⟩
      · rintro (h | ⟨i, h1, h2, h3, h5⟩)
        · exact Or.inl h
        · by_cases e : i = j
          · subst e; exact absurd h3 k0
          · exact Or.inr ⟨i, by omega, h2, h3, h5⟩
theorem rs_181_6 (hw : ∀ h k t, h < 20 → pl h k = some t → t < 16) (n4 : n ≤ 4) : ∀ (k j f : Nat) (N : am_M) (s : (Nat → Bool) × (Nat → Bool)) (R : Nat → Nat → Prop), j + k = n → k < f → N 96 0 = nI n → rf_wk N s.1 s.2 → rf_H N pl → rt_R s R → ∃ (N' : am_M) (s' : (Nat → Bool) × (Nat → Bool)), fd_181_6 f (nI j) N = fd_181_27 1000 (0 : Int32) N' ∧ rf_wk N' s'.1 s'.2 ∧ fr_ [112, 113] N N' ∧ rt_R s' (fun t c => R t c ∨ ∃ a, j ≤ a ∧ a < n ∧ 0 ≤ c ∧ c < 6 ∧ pl (16 + a) c = some t)
  | _, _, 0, _, _, _, _, hf, _, _, _, _ => by omega
  | 0, j, f + 1, N, s, R, hj, _, h0, H, hH, hR => by
    refine ⟨N, s, ?_, H, fr_refl _ _, rt_R_eq hR (fun o c => ⟨Or.inl, fun h => h.resolve_right (fun ⟨a, h1, h2, _⟩ => by omega)⟩)⟩
    rw [un_181_6, h0, pu_end (by omega) (by omega)]
  | k + 1, j, f + 1, N, s, R, hj, hf, h0, H, hH, hR => by
    rw [un_181_6, h0, pu_go (by omega) (by omega)]
    obtain ⟨N1, s1, e1, e2, e3, e4⟩ := rs_169_2 hw (show j < 4 by omega) 6 0 1000 N s R (by omega) (by omega) H hH hR
    unfold fd_169
    rw [show fd_169_2 1000 (nI j) (0 : Int32) N = _ from e1, Option.bind_some, nI_1]
    obtain ⟨N2, s2, g1, g2, g3, g4⟩ := rs_181_6 hw n4 k (j + 1) f N1 s1 _ (by omega) (by omega) (by rw [e3 96 (by decide)]; exact h0) e2 (rf_H_f hH (e3 _ (by decide)) (e3 _ (by decide))) e4
    refine ⟨N2, s2, g1, g2, fr_tr e3 g3, rt_R_eq g4 (fun o c => ?_)⟩
    constructor
    · rintro ((h | h) | ⟨a, h1, h2⟩)
      · exact Or.inl h
      · exact Or.inr ⟨j, Nat.le_refl _, by omega, h⟩
      · exact Or.inr ⟨a, by omega, h2⟩
    · rintro (h | ⟨a, h1, h2, h3⟩)
      · exact Or.inl (Or.inl h)
      · by_cases e : a = j
        · subst e; exact Or.inl (Or.inr h3)
        · exact Or.inr ⟨a, by omega, h2, h3⟩
/-- what is there and isn't met -/
def ab_gc (cl : Nat → Bool) (ow : Nat → Option Nat) : Nat → Nat → Nat
  | 0, _ => 0
  | k + 1, u => (if ow u ≠ none ∧ cl u = false then 1 else 0) + ab_gc cl ow k (u + 1)
theorem cs_126_50 {M : am_M} (ho : ∀ o a, ow o = some a → a < 4) (hO : cl_O M ow) (hI : cl_in M cl) : ∀ (k u f c : Nat), u + k = 16 → k < f → fd_126_50 f (nI c) (nI u) M = some (nI (c + ab_gc cl ow k u), M)
  | _, _, 0, _, _, hf => by omega
  | 0, u, f + 1, c, hu, _ => by
    rw [un_126_50]
    simp (disch := omega) only [pu_y16]
    rfl
  | k + 1, u, f + 1, c, hu, hf => by
    rw [un_126_50]
    simp (disch := omega) only [pu_x16]
    unfold fd_126_81
    rw [sp_107 (by omega), Option.bind_some, hO u (by omega), nI_1, nI_1]
    simp only []
    rw [cs_126_50 ho hO hI k (u + 1) f _ (by omega) (by omega), cs_80 hI (by omega), ab_gc]
    by_cases e : ow u = none
    · rw [if_pos ((en_o_m1 (fun t h => by have := ho u t h; omega)).mpr e), if_pos rfl, if_neg (fun g => g.1 e), Nat.zero_add]
    · rw [if_neg (fun g => e ((en_o_m1 (fun t h => by have := ho u t h; omega)).mp g)), if_neg pu_10, Option.bind_some]
      simp only []
      rw [cs_126_50 ho hO hI k (u + 1) f _ (by omega) (by omega), cs_126_50 ho hO hI k (u + 1) f _ (by omega) (by omega)]
      cases hc : cl u with
      | true => simp
      | false => simp [e, Nat.add_assoc]
theorem rs_181_79 {N : am_M} (ho : ∀ o a, ow o = some a → a < 4) (hO : rf_O N ow) (hI : rf_in N cl) : ∀ (k u f c : Nat), u + k = 16 → k < f → fd_181_79 f (nI c) (nI u) N = some (nI (c + ab_gc cl ow k u), N)
  | _, _, 0, _, _, hf => by omega
  | 0, u, f + 1, c, hu, _ => by
    rw [un_181_79]
    simp (disch := omega) only [pu_y16]
    rfl
  | k + 1, u, f + 1, c, hu, hf => by
    rw [un_181_79]
    simp (disch := omega) only [pu_x16, pu_cl, pu_g2]
    unfold fd_181_107
    rw [hO u (by omega), hI u (by omega), nI_1, nI_1, rs_181_79 ho hO hI k (u + 1) f _ (by omega) (by omega), rs_181_79 ho hO hI k (u + 1) f _ (by omega) (by omega), ab_gc]
    by_cases e : ow u = none
    · rw [if_pos ((en_o_m1 (fun t h => by have := ho u t h; omega)).mpr e), if_neg (fun g => g.1 e), Nat.zero_add]
    · rw [if_neg (fun g => e ((en_o_m1 (fun t h => by have := ho u t h; omega)).mp g))]
      cases hc : cl u with
      | true => simp
      | false => simp [e, Nat.add_assoc]
end
