/-! A statement, on both sides at once -/
theorem ty_v_s {pr : Nat → Nat} {t : ty_T} {bg j x y f z : Nat} (hw : ty_w t) (hv : ty_v t) (hrg : sm_rg bg j x y f z) (ha : st_re pr t j y f z = 0) : ty_v (ty_ef j x y f z t) := by
  have bc : ∀ (t1 : ty_T) (c : Nat), ty_v t1 → ty_v (ty_bc x c t1) := by
    intro t1 c h1 hb i d hd hh hs
    have hb' : t1.2.2.2 = true := hb
    unfold ty_bc at hd hh ⊢
    by_cases e : i = x
    · simp [e, hb']
    · simp [e] at hd hh ⊢; exact h1 hb' i d hd hh hs
  have em : ∀ v, ty_v (ty_em v t) := by
    intro v hb i d hd hh hs
    unfold ty_em at hd
    by_cases e : i = v
    · simp [e] at hd
    · simp [e] at hd; exact hv hb i d hd hh hs
  unfold ty_ef
  by_cases e0 : j = 0
  · rw [if_pos e0]; exact bc t _ hv
  rw [if_neg e0]
  by_cases e1 : j = 1
  · rw [if_pos e1]; exact bc t _ hv
  rw [if_neg e1]
  by_cases e2 : j = 2
  · rw [if_pos e2]; exact bc _ _ (em y)
  rw [if_neg e2]
  by_cases e3 : j = 3
  · rw [if_pos e3]; exact bc t _ hv
  rw [if_neg e3]
  by_cases e5 : j = 5
  · rw [if_pos e5]; exact bc _ _ (em z)
  rw [if_neg e5]
  by_cases e8 : j = 8
  · rw [if_pos e8]; exact em z
  rw [if_neg e8]
  by_cases e9 : j = 9
  · rw [if_pos e9]
    intro _ i d hd hh hs
    have hd' : t.1 i = some d := hd
    have : (ty_op t).2.1 i = true := by
      show (decide (t.1 i ≠ none) && !(st_sn ((t.1 i).getD 0))) = true
      rw [hd']; simp [hs]
    rw [this] at hh; cases hh
  rw [if_neg e9]
  by_cases e10 : j = 10
  · rw [if_pos e10]; intro hb; cases hb
  · rw [if_neg e10]; exact hv
theorem ty_at_v {p bg n : Nat} {pr : Nat → Nat} {cd : Nat → Nat → Int32} (hp : p < 6) (h : ∀ k, k < n → pg_st bg pr (ty_at p cd k) (cd k)) : ∀ k, k ≤ n → ty_v (ty_at p cd k)
  | 0, _ => fun hb => by cases hb
  | k + 1, hk => ty_v_s (ty_at_w hp h k (by omega)) (ty_at_v hp h k (by omega)) (h k (by omega)).2.1 (h k (by omega)).2.2
section
variable {M N : am_M} {pl : Nat → Nat → Option Nat} {ow : Nat → Option Nat} {ct : Nat → Nat → Int} {q : ct_Q} {m : Nat} {ce : Nat → Int32} {lo : Nat → Option Nat} {ls : Int32} {sh : Nat → Int32} {tt : Nat} {a b n nf : Nat} {pr : Nat → Nat} {t : ty_T} {Bd : Int}
/-- what is behind a statement -/
def sy_X (a n nf : Nat) (pr : Nat → Nat) (t' : ty_T) (Bd : Int) (tt : Nat) (M N M' N' : am_M) : Prop := ∃ b' pl' ow' ct' q' m' ce' lo' ls' sh' tt', cl_S M' pl' ow' ct' q' m' ce' ls' sh' tt' ∧ rf_S N' pl' ow' ct' q' m' ce' ls' sh' tt' ∧ cl_L M' lo' ∧ rf_L N' lo' ∧ sy_R a b' n nf pr t' pl' ow' ct' q' m' lo' (Bd + 15) ∧ fr_q M M' ∧ fr_n N N' ∧ tt' ≤ tt + 1
/-- only a local changes -/
theorem sy_X_l {b' : Nat} {x : Nat} {v : Option Nat} {w w' : Int32} {pl' : Nat → Nat → Option Nat} {t' : ty_T} (hS : cl_S M pl ow ct q m ce ls sh tt) (hT : rf_S N pl ow ct q m ce ls sh tt) (hL : cl_L M lo) (hL' : rf_L N lo) (hpl : ∀ x k, x < 20 ∨ x = 21 → pl' x k = pl x k) (hw : w = en_o v) (hw' : w' = en_o v) (R : sy_R a b' n nf pr t' pl' ow ct q m (up_1 lo x v) Bd) : sy_X a n nf pr t' Bd tt M N (ds_w M 95 x w) (ds_w N 115 x w') := by
  refine ⟨b', pl', ow, ct, q, m, ce, up_1 lo x v, ls, sh, tt, cl_S_pl (cl_S_f hS (fun y h1 h2 _ _ _ => dw_r _ _ _ (by omega))) hpl, rf_S_pl (rf_S_f hT (fun y hy => dw_r _ _ _ (by omega)) (fun s _ => by rw [dw_r _ _ _ (by decide)])) hpl, cl_L_w hL hw, rf_L_w hL' hw', sy_R_B R (by omega), ⟨fun h hh => dw_r _ _ _ (by omega), by rw [dw_r _ _ _ (by decide)]⟩, ⟨fun h hh => dw_r _ _ _ (by omega), fun s _ _ _ => by rw [dw_r _ _ _ (by decide)]⟩, by omega⟩
theorem sy_X_0 {b' : Nat} {t' : ty_T} (hS : cl_S M pl ow ct q m ce ls sh tt) (hT : rf_S N pl ow ct q m ce ls sh tt) (hL : cl_L M lo) (hL' : rf_L N lo) (R : sy_R a b' n nf pr t' pl ow ct q m lo Bd) : sy_X a n nf pr t' Bd tt M N M N :=
  ⟨b', pl, ow, ct, q, m, ce, lo, ls, sh, tt, hS, hT, hL, hL', sy_R_B R (by omega), fr_q_refl _, fr_n_refl _, by omega⟩
end
