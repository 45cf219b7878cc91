/-! The state of both, in one word each; what a run changes -/
def cl_S (M : am_M) (pl : Nat → Nat → Option Nat) (ow : Nat → Option Nat) (ct : Nat → Nat → Int) (q : ct_Q) (m : Nat) (ce : Nat → Int32) (ls : Int32) (sh : Nat → Int32) (tt : Nat) : Prop := cl_H M pl ow ∧ cl_O M ow ∧ cl_T M ct ∧ cl_Q M pl q m ∧ cl_C M ow ce ∧ M 94 7 = ls ∧ cl_D M sh tt
def rf_S (N : am_M) (pl : Nat → Nat → Option Nat) (ow : Nat → Option Nat) (ct : Nat → Nat → Int) (q : ct_Q) (m : Nat) (ce : Nat → Int32) (ls : Int32) (sh : Nat → Int32) (tt : Nat) : Prop := rf_H N pl ∧ rf_O N ow ∧ rf_T N ct ∧ rf_Q N pl q m ∧ rf_C N ce ∧ N 96 24 = ls ∧ rf_D N sh tt
def fr_q (M M' : am_M) : Prop := (∀ h, h < 80 ∨ 96 ≤ h → M' h = M h) ∧ M' 94 0 = M 94 0
def fr_n (N N' : am_M) : Prop := (∀ h, h < 96 ∨ h = 102 ∨ h = 103 ∨ h = 104 → N' h = N h) ∧ ∀ s, s ≠ 15 → s ≠ 24 → s ≠ 25 → N' 96 s = N 96 s
def up_1 {α : Type} (f : Nat → α) (x : Nat) (v : α) : Nat → α := fun k => if k = x then v else f k
theorem up_s {α : Type} (f : Nat → α) (x : Nat) (v : α) : up_1 f x v x = v := if_pos rfl
theorem up_n {α : Type} (f : Nat → α) {x k : Nat} (v : α) (h : k ≠ x) : up_1 f x v k = f k := if_neg h
theorem fr_q_tr {A B C : am_M} (h1 : fr_q A B) (h2 : fr_q B C) : fr_q A C := ⟨fun h n => (h2.1 h n).trans (h1.1 h n), h2.2.trans h1.2⟩
theorem fr_n_tr {A B C : am_M} (h1 : fr_n A B) (h2 : fr_n B C) : fr_n A C := ⟨fun h n => (h2.1 h n).trans (h1.1 h n), fun s a b c => (h2.2 s a b c).trans (h1.2 s a b c)⟩
theorem fr_q_refl (A : am_M) : fr_q A A := ⟨fun _ _ => rfl, rfl⟩
theorem fr_n_refl (A : am_M) : fr_n A A := ⟨fun _ _ => rfl, fun _ _ _ _ => rfl⟩
theorem fr_q_of {A B : am_M} {L : List Nat} (h : fr_ L A B) (hL : ∀ x, x ∈ L → 80 ≤ x ∧ x < 96 ∧ x ≠ 94) : fr_q A B := ⟨fun x n => h x (fun m => by have := hL x m; omega), by rw [h 94 (fun m => by have := hL 94 m; omega)]⟩
theorem fr_n_of {A B : am_M} {L K : List Nat} (h : fr_ L A B) (hs : fs_ K A B) (hL : ∀ x, x ∈ L → 96 ≤ x ∧ x ≠ 102 ∧ x ≠ 103 ∧ x ≠ 104) (hK : ∀ x, x ∈ K → x = 15 ∨ x = 24 ∨ x = 25) : fr_n A B := ⟨fun x n => h x (fun m => by have := hL x m; omega), fun s a b c => hs s (fun m => by have := hK s m; omega)⟩
section
variable {M M' N N' : am_M} {pl pl' : Nat → Nat → Option Nat} {ow : Nat → Option Nat} {ct : Nat → Nat → Int} {q : ct_Q} {m : Nat} {ce : Nat → Int32} {lo lo' : Nat → Option Nat} {ls : Int32} {sh : Nat → Int32} {tt : Nat} {a b n nf : Nat} {pr : Nat → Nat} {t t' : ty_T} {Bd : Int}
theorem cl_S_f (H : cl_S M pl ow ct q m ce ls sh tt) (h : ∀ x, 80 ≤ x → x ≤ 94 → x ≠ 89 → x ≠ 90 → x ≠ 91 → M' x = M x) : cl_S M' pl ow ct q m ce ls sh tt := by
  obtain ⟨h1, h2, h3, h4, h5, h6, h7⟩ := H
  refine ⟨cl_H_f h1 (h _ (by decide) (by decide) (by decide) (by decide) (by decide)), cl_O_f h2 (h _ (by decide) (by decide) (by decide) (by decide) (by decide)), cl_T_f h3 (h _ (by decide) (by decide) (by decide) (by decide) (by decide)), cl_Q_f h4 (h _ (by decide) (by decide) (by decide) (by decide) (by decide)) (h _ (by decide) (by decide) (by decide) (by decide) (by decide)) (h _ (by decide) (by decide) (by decide) (by decide) (by decide)) (h _ (by decide) (by decide) (by decide) (by decide) (by decide)) (h _ (by decide) (by decide) (by decide) (by decide) (by decide)), ?_, ?_, ?_⟩
  · unfold cl_C; rw [h 81 (by decide) (by decide) (by decide) (by decide) (by decide)]; exact h5
  · rw [h 94 (by decide) (by decide) (by decide) (by decide) (by decide)]; exact h6
  · unfold cl_D; rw [h 92 (by decide) (by decide) (by decide) (by decide) (by decide), h 93 (by decide) (by decide) (by decide) (by decide) (by decide)]; exact h7
theorem rf_S_f (H : rf_S N pl ow ct q m ce ls sh tt) (h : ∀ x, x = 97 ∨ x = 98 ∨ x = 99 ∨ x = 100 ∨ x = 101 ∨ x = 108 ∨ x = 109 ∨ x = 110 ∨ x = 111 ∨ x = 116 → N' x = N x) (hs : ∀ s, s = 15 ∨ s = 24 ∨ s = 25 → N' 96 s = N 96 s) : rf_S N' pl ow ct q m ce ls sh tt := by
  obtain ⟨h1, h2, h3, h4, h5, h6, h7⟩ := H
  refine ⟨rf_H_f h1 (h _ (by simp)) (h _ (by simp)), rf_O_f h2 (h _ (by simp)), rf_T_f h3 (h _ (by simp)), rf_Q_f h4 (hs _ (by simp)) (h _ (by simp)) (h _ (by simp)) (h _ (by simp)) (h _ (by simp)), ?_, ?_, ?_⟩
  · unfold rf_C; rw [h 98 (by simp)]; exact h5
  · rw [hs 24 (by simp)]; exact h6
  · unfold rf_D; rw [hs 25 (by simp), h 116 (by simp)]; exact h7
/-- places of the encodings: only objects', actors' and messages' -/
theorem cl_S_pl (H : cl_S M pl ow ct q m ce ls sh tt) (h : ∀ x k, x < 20 ∨ x = 21 → pl' x k = pl x k) : cl_S M pl' ow ct q m ce ls sh tt := by
  obtain ⟨h1, h2, h3, h4, h5, h6, h7⟩ := H
  refine ⟨⟨fun x k hx hk hl => ?_, fun a k ha hk => ?_⟩, h2, h3, ⟨h4.1, h4.2.1, fun i hi => ?_⟩, h5, h6, h7⟩
  · rw [h x k (by omega)]; exact h1.1 x k hx hk hl
  · rw [h _ k (by omega)]; exact h1.2 a k ha hk
  · rw [h 21 i (by omega)]; exact h4.2.2 i hi
theorem rf_S_pl (H : rf_S N pl ow ct q m ce ls sh tt) (h : ∀ x k, x < 20 ∨ x = 21 → pl' x k = pl x k) : rf_S N pl' ow ct q m ce ls sh tt := by
  obtain ⟨h1, h2, h3, h4, h5, h6, h7⟩ := H
  refine ⟨⟨fun x k hx hk => ?_, fun a k ha hk => ?_⟩, h2, h3, ⟨h4.1, h4.2.1, fun i hi => ?_⟩, h5, h6, h7⟩
  · rw [h x k (by omega)]; exact h1.1 x k hx hk
  · rw [h _ k (by omega)]; exact h1.2 a k ha hk
  · rw [h 21 i (by omega)]; exact h4.2.2 i hi
theorem cl_L_w {x : Nat} {v : Option Nat} {w : Int32} (H : cl_L M lo) (hw : w = en_o v) : cl_L (ds_w M 95 x w) (up_1 lo x v) := by
  intro k hk
  by_cases e : k = x
  · subst e; rw [dw_s, up_s, hw]
  · rw [dw_n _ _ e, up_n _ _ e]; exact H k hk
theorem rf_L_w {x : Nat} {v : Option Nat} {w : Int32} (H : rf_L N lo) (hw : w = en_o v) : rf_L (ds_w N 115 x w) (up_1 lo x v) := by
  intro k hk
  by_cases e : k = x
  · subst e; rw [dw_s, up_s, hw]
  · rw [dw_n _ _ e, up_n _ _ e]; exact H k hk
/-- counts are small numbers -/
theorem sy_R_ct (R : sy_R a b n nf pr t pl ow ct q m lo Bd) {c o : Nat} (hc : c < 4) (ho : o < 16) : 0 ≤ ct c o ∧ ct c o ≤ Bd := by
  obtain ⟨_, _, _, _, _, hI, hz, hw, hn, ⟨_, hq, _⟩, hB⟩ := R
  have pos : ∀ c, c < 4 → 0 ≤ ct c o := by
    intro c hc
    cases e : ow o with
    | none => rw [hz o ho e c hc]; exact Int.le_refl 0
    | some a' => exact (hI.1 o a' ho e).2.1 c hc
  refine ⟨pos c hc, ?_⟩
  have h1 := hB o ho
  unfold sy_W at h1
  have h2 : 0 ≤ ct_sum (fun i => if (q i).1 = 1 ∧ (q i).2.2.1 = o then (q i).2.2.2.1 else 0) m := ct_sum_pos (fun i hi => by
    by_cases g : (q i).1 = 1 ∧ (q i).2.2.1 = o
    · simp only [if_pos g]; rw [(hq i hi).2.2.2.1 g.1]; decide
    · simp only [if_neg g]; exact Int.le_refl 0)
  simp only [ct_sum] at h1
  have p0 := pos 0 (by decide); have p1 := pos 1 (by decide); have p2 := pos 2 (by decide); have p3 := pos 3 (by decide)
  rcases (show c = 0 ∨ c = 1 ∨ c = 2 ∨ c = 3 by omega) with rfl | rfl | rfl | rfl <;> omega
theorem sy_R_w (R : sy_R a b n nf pr t pl ow ct q m lo Bd) (hB : Bd < 1000000) {c o : Nat} (hc : c < 4) (ho : o < 16) : en_w (ct c o) := by
  have := sy_R_ct R hc ho; unfold en_w; omega
theorem sy_R_B {Bd' : Int} (R : sy_R a b n nf pr t pl ow ct q m lo Bd) (h : Bd ≤ Bd') : sy_R a b n nf pr t pl ow ct q m lo Bd' := by
  obtain ⟨h1, h2, h3, h4, h5, h6, h7, h8, h9, h10, h11⟩ := R
  exact ⟨h1, h2, h3, h4, h5, h6, h7, h8, h9, h10, fun o ho => Int.le_trans (h11 o ho) h⟩
/-- places change, nothing else -/
theorem sy_R_pl {b' : Nat} (R : sy_R a b n nf pr t pl ow ct q m lo Bd) (hG : ∃ g V, gh_J a b' (sy_K ow ct) (sy_E ow) pl' (sy_cb pr q t') (sy_cx a b' t') g V) (hL : ∀ x, pl' 20 x = if x < 6 ∧ t'.1 x ≠ none then lo' x else none) (hlo : ∀ x v, lo' x = some v → v < 16) (hZ : ∀ h k, 22 ≤ h → pl' h k = none) (hv : ∀ h k v, h < 20 → pl' h k = some v → v < 16 ∧ k < 6) (h21 : ∀ i, pl' 21 i = pl 21 i) (hcl : ∀ i v, i < m → (q i).1 = 0 → pl 21 i = some v → pr (q i).2.2.1 < 5 → ∀ p k, gh_dp pl v p → p < 16 → pl' p k = pl p k) : sy_R a b' n nf pr t' pl' ow ct q m lo' Bd := by
  obtain ⟨h1, h2, h3, h4, h5, h6, h7, h8, h9, ⟨k1, k2, k3, k4, k5⟩, h11⟩ := R
  refine ⟨hG, hL, hlo, hZ, hv, h6, h7, h8, h9, ⟨k1, k2, fun i o hi hk ho => ?_, fun i hi => by rw [h21]; exact k4 i hi, fun i v hv => k5 i v (by rw [← h21]; exact hv)⟩, h11⟩
  rw [k3 i o hi hk ho]
  constructor
  · rintro ⟨v, g1, g2⟩
    exact ⟨v, by rw [h21]; exact g1, (gh_cl_eq (fun c5 => hcl i v hi hk g1 c5)).mpr g2⟩
  · rintro ⟨v, g1, g2⟩
    rw [h21] at g1
    exact ⟨v, g1, (gh_cl_eq (fun c5 => hcl i v hi hk g1 c5)).mp g2⟩
theorem sy_cb_bc {x c : Nat} : sy_cb pr q (ty_bc x c t) = gh_u (sy_cb pr q t) 20 x c := by
  funext h k
  unfold sy_cb ty_bc gh_u
  by_cases e : h = 20
  · subst e
    by_cases e2 : k = x
    · simp [e2]
    · simp [e2]
  · simp [e]
theorem sy_cx_bc {x c : Nat} (hw : ty_w t) : sy_cx a b (ty_bc x c t) = gh_u (sy_cx a b t) 20 x (sy_P a b t) := by
  funext h k
  unfold sy_cx ty_bc gh_u sy_P
  by_cases e : h = 20
  · subst e
    by_cases e2 : k = x
    · subst e2
      cases hb : t.2.2.2 with
      | true => simp
      | false => simp [(hw.2 hb k).2]
    · simp [e2]
  · simp [e]
theorem sy_P_cel (a b : Nat) (t : ty_T) : gh_cel a b (sy_P a b t) := by
  unfold sy_P gh_cel
  cases t.2.2.2 <;> simp
/-- a local that can be looked into and isn't of a sendable capability lies in the cell in which locals become -/
theorem sy_acc {y c : Nat} (hw : ty_w t) (hv : ty_v t) (hc : t.1 y = some c) (hh : t.2.1 y = false) : sy_cb pr q t 20 y = c ∧ (sy_cb pr q t 20 y = 1 ∨ sy_cb pr q t 20 y = 2 ∨ sy_cb pr q t 20 y = 4 → sy_cx a b t 20 y = sy_P a b t) := by
  have e : sy_cb pr q t 20 y = c := by unfold sy_cb; simp [hc]
  refine ⟨e, fun h => ?_⟩
  rw [e] at h
  unfold sy_cx sy_P
  cases hb : t.2.2.2 with
  | true =>
    have hs : st_sn c = false := by rcases h with rfl | rfl | rfl <;> decide
    simp [hv hb y c hc hh hs]
  | false => simp [(hw.2 hb y).2]
theorem sy_tt {x : Nat} (R : sy_R a b n nf pr t pl ow ct q m lo Bd) (hx : x < 6) (ht : t.1 x ≠ none) : pl 20 x = lo x := by
  rw [R.2.1 x, if_pos ⟨hx, ht⟩]
end
