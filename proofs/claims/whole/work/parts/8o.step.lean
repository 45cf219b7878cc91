/-! The whole state between two calls; step -/
def jo_W (n : Nat) (Bd : Int) (T : Nat) (M N : am_M) : Prop := 1 ≤ n ∧ n ≤ 4 ∧ M 0 0 = nI n ∧ M 94 0 = nI n ∧ N 96 0 = nI n ∧ 0 ≤ Bd ∧ ∃ (bg : Nat) (op : Bool) (pr ln : Nat → Nat) (cd : Nat → Nat → Nat → Int32), pg_ok bg pr ln cd ∧ cl_Z M bg op pr ln cd ∧ rf_P N bg op pr ln cd ∧ ∃ (a b : Nat) (pl : Nat → Nat → Option Nat) (ow : Nat → Option Nat) (ct : Nat → Nat → Int) (q : ct_Q) (m : Nat) (ce : Nat → Int32) (lo : Nat → Option Nat) (ls : Int32) (sh : Nat → Int32) (tt : Nat), cl_S M pl ow ct q m ce ls sh tt ∧ rf_S N pl ow ct q m ce ls sh tt ∧ sy_R a b n (pg_f bg op) pr ty_e pl ow ct q m lo Bd ∧ tt ≤ T
/-- a call of the class and of the reference -/
def jo_g (F G : am_M → Option (Int32 × am_M)) (n : Nat) (Bd : Int) (T : Nat) (Bd' : Int) (T' : Nat) : Prop := ∀ M N, jo_W n Bd T M N → ∃ r M' N', F M = some (r, M') ∧ G N = some (r, N') ∧ jo_W n Bd' T' M' N' ∧ (∀ h, 96 ≤ h → M' h = M h) ∧ ∀ h, h < 96 → N' h = N h
section
variable {M M' N N' : am_M} {pl pl' : Nat → Nat → Option Nat} {ow : Nat → Option Nat} {ct ct' : Nat → Nat → Int} {q : ct_Q} {m : Nat} {ce : Nat → Int32} {lo : Nat → Option Nat} {ls : Int32} {sh : Nat → Int32} {tt : Nat} {a b n bg r : Nat} {op : Bool} {pr ln : Nat → Nat} {cd : Nat → Nat → Nat → Int32} {Bd Bd' : Int} {T T' : Nat}
theorem jo_W_b (H : jo_W n Bd T M N) (h1 : Bd ≤ Bd') (h2 : T ≤ T') : jo_W n Bd' T' M N := by
  obtain ⟨a1, a2, a3, a4, a5, a6, bg, op, pr, ln, cd, b1, b2, b3, a, b, pl, ow, ct, q, m, ce, lo, ls, sh, tt, c1, c2, c3, c4⟩ := H
  exact ⟨a1, a2, a3, a4, a5, by omega, bg, op, pr, ln, cd, b1, b2, b3, a, b, pl, ow, ct, q, m, ce, lo, ls, sh, tt, c1, c2, sy_R_B c3 h1, by omega⟩
theorem cl_Y_f {t : ty_T} (H : cl_Y M t) (h : ∀ x, 3 ≤ x → x ≤ 6 → M' x = M x) : cl_Y M' t := by
  unfold cl_Y
  rw [h 3 (by decide) (by decide), h 4 (by decide) (by decide), h 5 (by decide) (by decide), h 6 (by decide) (by decide)]; exact H
theorem cl_Z_q (hok : pg_ok bg pr ln cd) (H : cl_Z M bg op pr ln cd) (h : fr_q M M') : cl_Z M' bg op pr ln cd :=
  ⟨cl_P_q hok H.1 h, fun e => ⟨(H.2 e).1, cl_Y_f (H.2 e).2 (fun x _ h2 => h.1 x (by omega))⟩⟩
theorem cl_H_pl (H : cl_H M pl ow) (h : ∀ x k, x < 20 → pl' x k = pl x k) : cl_H M pl' ow :=
  ⟨fun x k hx hk hl => by rw [h x k (by omega)]; exact H.1 x k hx hk hl, fun a k ha hk => by rw [h _ k (by omega)]; exact H.2 a k ha hk⟩
theorem rf_H_pl (H : rf_H N pl) (h : ∀ x k, x < 20 → pl' x k = pl x k) : rf_H N pl' :=
  ⟨fun x k hx hk => by rw [h x k (by omega)]; exact H.1 x k hx hk, fun a k ha hk => by rw [h _ k (by omega)]; exact H.2 a k ha hk⟩
/-- what is behind a call, out of its pieces -/
theorem jo_cl {a' b' : Nat} {ow' : Nat → Option Nat} {q' : ct_Q} {m' : Nat} {ce' : Nat → Int32} {lo' : Nat → Option Nat} {ls' : Int32} {sh' : Nat → Int32} {tt' : Nat} (h1 : 1 ≤ n) (h4 : n ≤ 4) (hM : M 0 0 = nI n) (hM' : M 94 0 = nI n) (hN : N 96 0 = nI n) (h0 : 0 ≤ Bd') (hok : pg_ok bg pr ln cd) (hZ : cl_Z M bg op pr ln cd) (hP : rf_P N bg op pr ln cd) (hq : fr_q M M') (hn : fr_n N N') (hS : cl_S M' pl' ow' ct' q' m' ce' ls' sh' tt') (hT : rf_S N' pl' ow' ct' q' m' ce' ls' sh' tt') (R : sy_R a' b' n (pg_f bg op) pr ty_e pl' ow' ct' q' m' lo' Bd') (ht : tt' ≤ T') : jo_W n Bd' T' M' N' ∧ (∀ h, 96 ≤ h → M' h = M h) ∧ ∀ h, h < 96 → N' h = N h :=
  ⟨⟨h1, h4, by rw [hq.1 0 (by decide)]; exact hM, by rw [hq.2]; exact hM', by rw [hn.2 0 (by decide) (by decide) (by decide)]; exact hN, h0, bg, op, pr, ln, cd, hok, cl_Z_q hok hZ hq, rf_P_n hP hn, a', b', pl', ow', ct', q', m', ce', lo', ls', sh', tt', hS, hT, R, ht⟩, fun h hh => hq.1 h (Or.inr hh), fun h hh => hn.1 h (Or.inl hh)⟩
theorem jo_first (f : Nat → Nat) (a : Nat) : ∀ m, (∃ r, r < m ∧ (∀ i, i < r → f i ≠ a) ∧ f r = a) ∨ ∀ i, i < m → f i ≠ a
  | 0 => Or.inr (fun i hi => by omega)
  | m + 1 => by
    rcases jo_first f a m with ⟨r, h1, h2, h3⟩ | h
    · exact Or.inl ⟨r, by omega, h2, h3⟩
    · by_cases e : f m = a
      · exact Or.inl ⟨m, by omega, h, e⟩
      · exact Or.inr (fun i hi => by
          by_cases e2 : i = m
          · rw [e2]; exact e
          · exact h i (by omega))
/-- nobody's messages -/
theorem rs_156_n {x : Int32} (hQ : rf_Q N pl q m) (hx : ∀ i, i < m → nI (q i).2.1 ≠ x) : ∀ (k u f : Nat), u + k = m → k < f → fd_156_2 f x (nI u) N = some (-1, N)
  | _, _, 0, _, hf => by omega
  | 0, u, f + 1, hu, _ => by
    have m20 := hQ.2.1
    rw [un_156_2, hQ.1, pu_end (by omega) (by omega)]
    unfold fd_156_26
    rw [hQ.1, if_pos (by rw [show u = m by omega])]
  | k + 1, u, f + 1, hu, hf => by
    have m20 := hQ.2.1
    rw [un_156_2, hQ.1, pu_go (by omega) (by omega)]
    simp (disch := omega) only [pu_cl, pu_g2]
    rw [(hQ.2.2 u (by omega)).2.1, if_neg (hx u (by omega)), nI_1]
    exact rs_156_n hQ hx k (u + 1) f (by omega) (by omega)
end
