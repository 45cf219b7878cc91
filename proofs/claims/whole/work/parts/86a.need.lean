/-! How many raises are needed -/
section
variable {N M : am_M} {pl pl' : Nat → Nat → Option Nat} {ow : Nat → Option Nat} {ct : Nat → Nat → Int} {m n a : Nat} {cl : Nat → Bool}
theorem rs_166_26 (hw : ∀ o a, ow o = some a → a < 4) (ha : a < 4) (hO : rf_O N ow) (hI : rf_in N cl) (hT : rf_T N ct) (hc : ∀ o, o < 16 → en_w (ct a o)) (x2 x3 x4 : Int32) (X : Nat → Option am_M) (hX : ∀ c, (if ((N 96 15) + nI c) + (1 : Int32) ≤ (20 : Int32) then fd_166_107 1000 (nI a) x2 x3 x4 0 N else some (ds_w N 96 24 ((N 96 24) + (1 : Int32)))) = X c) : ∀ (k u c f : Nat), u + k = 16 → k < f → fd_166_26 f (nI a) x2 x3 x4 (nI c) (nI u) N = X (c + ab_need cl ow ct a k u)
  | _, _, _, 0, _, hf => by omega
  | 0, u, c, f + 1, hu, hf => by
    rw [un_166_26]
    simp (disch := omega) only [pu_y16, ab_need, Nat.add_zero]
    exact hX c
  | k + 1, u, c, f + 1, hu, hf => by
    have ih := fun c' => rs_166_26 hw ha hO hI hT hc x2 x3 x4 X hX k (u + 1) c' f (by omega) (by omega)
    rw [un_166_26]
    simp (disch := omega) only [pu_x16, pu_16, pu_cl, pu_g2]
    rw [hI u (by omega)]
    unfold fd_166_73
    rw [nI_1, nI_1, ab_need]
    have e97 : N 97 u = nI a ↔ ow u = some a := by rw [hO u (by omega)]; exact en_o_nI (by omega) (ow_lt hw u)
    have e100 := hT a u ha (by omega)
    by_cases h : cl u = true
    · rw [if_pos h, if_neg pu_10]
      by_cases h1 : ow u = some a
      · rw [if_pos (e97.mpr h1), ih]; simp [h1]
      · rw [if_neg (fun e => h1 (e97.mp e)), e100]
        by_cases h2 : ct a u < 2
        · rw [if_neg (fun e => by have := (en_2' _ (hc u (by omega))).mp e; omega), ih, if_pos ⟨h, h1, h2⟩, Nat.add_assoc]
        · rw [if_pos ((en_2' _ (hc u (by omega))).mpr (by omega)), ih, if_neg (fun e => h2 e.2.2)]; simp only [Nat.zero_add]
    · rw [if_neg h, if_pos rfl, ih, if_neg (fun e => h e.1)]; simp only [Nat.zero_add]
theorem cs_100_4 (hw : ∀ o a, ow o = some a → a < 4) (ha : a < 4) (hO : cl_O M ow) (hI : cl_in M cl) (hT : cl_T M ct) (hc : ∀ o, o < 16 → en_w (ct a o)) : ∀ (k u c f : Nat), u + k = 16 → k < f → fd_100_4 f (nI a) (nI c) (nI u) M = some (nI (c + ab_need cl ow ct a k u), M)
  | _, _, _, 0, _, hf => by omega
  | 0, u, c, f + 1, hu, hf => by
    rw [un_100_4]
    simp (disch := omega) only [pu_y16, ab_need, Nat.add_zero]
  | k + 1, u, c, f + 1, hu, hf => by
    have ih := fun c' => cs_100_4 hw ha hO hI hT hc k (u + 1) c' f (by omega) (by omega)
    rw [un_100_4]
    simp (disch := omega) only [pu_x16]
    rw [cs_80 hI (show u < 16 by omega), Option.bind_some]
    unfold fd_100_49
    rw [nI_1, nI_1, ab_need]
    have e80 : M 80 u = nI a ↔ ow u = some a := by rw [hO u (by omega)]; exact en_o_nI (by omega) (ow_lt hw u)
    have e83 := hT a u ha (by omega)
    by_cases h : cl u = true
    · simp only [if_pos h, if_neg pu_10]
      rw [sp_81 (show u < 16 by omega), Option.bind_some]
      by_cases h1 : ow u = some a
      · rw [if_pos (e80.mpr h1), ih]; simp [h1]
      · rw [if_neg (fun e => h1 (e80.mp e)), sp_101 ha (show u < 16 by omega), Option.bind_some]
        simp only [e83]
        by_cases h2 : ct a u < 2
        · rw [if_neg (fun e => by have := (en_2' _ (hc u (by omega))).mp e; omega), ih, if_pos ⟨h, h1, h2⟩, Nat.add_assoc]
        · rw [if_pos ((en_2' _ (hc u (by omega))).mpr (by omega)), ih, if_neg (fun e => h2 e.2.2)]; simp only [Nat.zero_add]
    · simp only [if_neg h, if_true]
      rw [ih, if_neg (fun e => h e.1)]; simp only [Nat.zero_add]
end
/-! Closures, as the reference finds them -/
def pu_b (b : Bool) : Int32 := if b = true then 1 else 0
def rf_wk (N : am_M) (i d : Nat → Bool) : Prop := ∀ o, o < 16 → N 112 o = pu_b (i o) ∧ N 113 o = pu_b (d o)
/-- I and D are closed: what a deep one holds is in, and deep if not held by TAG -/
def gh_cd (pl : Nat → Nat → Option Nat) (I D : Nat → Prop) : Prop := ∀ p k u, p < 16 → k < 6 → D p → pl p k = some u → I u ∧ (k < 5 → D u)
def ab_n (d : Nat → Bool) : Nat → Nat
  | 0 => 0
  | n + 1 => ab_n d n + (if d n = true then 1 else 0)
theorem ab_n_le (d : Nat → Bool) : ∀ n, ab_n d n ≤ n
  | 0 => Nat.le_refl _
  | n + 1 => by rw [ab_n]; have := ab_n_le d n; split <;> omega
theorem ab_n_mono {d d' : Nat → Bool} : ∀ n, (∀ o, o < n → d o = true → d' o = true) → ab_n d n ≤ ab_n d' n
  | 0, _ => Nat.le_refl _
  | n + 1, h => by
    rw [ab_n, ab_n]; have := ab_n_mono n (fun o ho => h o (by omega))
    by_cases e : d n = true
    · rw [if_pos e, if_pos (h n (by omega) e)]; omega
    · rw [if_neg e]; split <;> omega
theorem ab_n_strict {d d' : Nat → Bool} : ∀ n, (∀ o, o < n → d o = true → d' o = true) → ab_n d' n ≤ ab_n d n → ∀ o, o < n → d' o = d o
  | 0, _, _ => fun o ho => by omega
  | n + 1, h, hl => by
    rw [ab_n, ab_n] at hl
    have hm := ab_n_mono n (fun o ho => h o (by omega))
    have hn := h n (by omega)
    have key : ab_n d' n ≤ ab_n d n ∧ d' n = d n := by
      cases h1 : d n with
      | true => simp [h1, hn h1] at hl ⊢; omega
      | false =>
        cases h2 : d' n with
        | true => simp [h1, h2] at hl; omega
        | false => simp [h1, h2] at hl ⊢; omega
    intro o ho
    by_cases e : o = n
    · rw [e]; exact key.2
    · exact ab_n_strict n (fun o ho => h o (by omega)) key.1 o (by omega)
section
variable {N M : am_M} {pl : Nat → Nat → Option Nat}
/-- clear -/
theorem rs_158_2 : ∀ (k u f : Nat) (N : am_M), u + k = 16 → k < f → (∀ o, o < u → N 112 o = 0 ∧ N 113 o = 0) → ∃ N', fd_158_2 f (nI u) N = some N' ∧ rf_wk N' (fun _ => false) (fun _ => false) ∧ fr_ [112, 113] N N'
  | _, _, 0, _, _, hf, _ => by omega
  | 0, u, f + 1, N, hu, _, h => by
    refine ⟨N, ?_, fun o ho => h o (by omega), fr_refl _ _⟩
    rw [un_158_2]
    simp (disch := omega) only [pu_y16]
  | k + 1, u, f + 1, N, hu, hf, h => by
    rw [un_158_2]
    simp (disch := omega) only [pu_x16, pu_cl, pu_g2]
    rw [nI_1, show ((0 : Int32) &&& 1) = 0 from by decide]
    obtain ⟨N', e1, e2, e3⟩ := rs_158_2 k (u + 1) f (ds_w (ds_w N 112 u 0) 113 u 0) (by omega) (by omega) (fun o ho => by
      simp only [dw_x]
      by_cases e : o = u
      · simp [e]
      · simp [e]; exact h o (by omega))
    exact ⟨N', e1, e2, fr_tr (fr_w (fr_w (fr_refl _ _) (by decide)) (by decide)) e3⟩
theorem rs_158 (N : am_M) : ∃ N', fd_158 N = some N' ∧ rf_wk N' (fun _ => false) (fun _ => false) ∧ fr_ [112, 113] N N' := rs_158_2 16 0 1000 N rfl (by decide) (fun o ho => by omega)
/-- root -/
def ab_rt (v : Option Nat) (c : Nat) (s : (Nat → Bool) × (Nat → Bool)) : (Nat → Bool) × (Nat → Bool) := match v with
  | none => s
  | some t => (fun o => if o = t then true else s.1 o, fun o => if o = t then (s.2 t || decide (c < 5)) else s.2 o)
theorem pu_b0 (b : Bool) : pu_b b = 0 ↔ b = false := by cases b <;> decide
theorem rs_159 {v : Option Nat} {c : Nat} {s : (Nat → Bool) × (Nat → Bool)} (hv : ∀ t, v = some t → t < 16) (hc : c < 6) (H : rf_wk N s.1 s.2) : ∃ N', fd_159 (en_o v) (nI c) N = some N' ∧ rf_wk N' (ab_rt v c s).1 (ab_rt v c s).2 ∧ fr_ [112, 113] N N' := by
  cases v with
  | none => exact ⟨N, by unfold fd_159 en_o; rw [if_pos rfl], H, fr_refl _ _⟩
  | some t =>
    have ht := hv t rfl
    have e5 : nI c = 5 ↔ c = 5 := en_nI (by omega) (by decide)
    have tn : nI t = -1 ↔ False := ⟨fun e => en_nI_m1 (by omega) e, fun h => h.elim⟩
    unfold fd_159 fd_159_32 fd_159_37 en_o
    simp (disch := omega) only [pu_cl, pu_g2, tn, if_false]
    rw [(H t ht).2, show ((1 : Int32) &&& 1) = 1 from by decide, show ((0 : Int32) &&& 1) = 0 from by decide]
    have fin : ∀ b : Bool, b = (s.2 t || decide (c < 5)) → rf_wk (ds_w (ds_w N 112 t 1) 113 t (pu_b b)) (ab_rt (some t) c s).1 (ab_rt (some t) c s).2 := by
      intro b hb o ho
      simp only [dw_x, ab_rt]
      by_cases e : o = t
      · subst e; simp [hb, pu_b]
      · simp [e]; exact H o ho
    have fr : ∀ b : Int32, fr_ [112, 113] N (ds_w (ds_w N 112 t 1) 113 t b) := fun b => fr_w (fr_w (fr_refl _ _) (by decide)) (by decide)
    by_cases h : s.2 t = false
    · rw [if_pos ((pu_b0 _).mpr h)]
      by_cases h5 : c = 5
      · rw [if_pos (e5.mpr h5)]
        exact ⟨_, rfl, fin false (by rw [h, h5]; decide), fr _⟩
      · rw [if_neg (fun e => h5 (e5.mp e))]
        exact ⟨_, rfl, fin true (by rw [h, decide_eq_true (show c < 5 by omega)]; rfl), fr _⟩
    · rw [if_neg (fun e => h ((pu_b0 _).mp e))]
      exact ⟨_, rfl, fin true (by have : s.2 t = true := by simpa using h
                                  rw [this]; rfl), fr _⟩
end
