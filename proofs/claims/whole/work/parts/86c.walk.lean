/-! The class's walk: bits by which an object was met, and the list of meetings -/
def en_b (b : Nat → Bool) : Nat := (b 0).toNat + 2 * (b 1).toNat + 4 * (b 2).toNat + 8 * (b 3).toNat + 16 * (b 4).toNat + 32 * (b 5).toNat
theorem eb_and {b : Nat → Bool} {c : Nat} (hc : c < 6) : ((nI (en_b b)) &&& ((1 : Int32) <<< (nI c &&& 31))) = 0 ↔ b c = false := by
  unfold en_b
  rcases (show c = 0 ∨ c = 1 ∨ c = 2 ∨ c = 3 ∨ c = 4 ∨ c = 5 by omega) with rfl | rfl | rfl | rfl | rfl | rfl <;>
    (generalize b 0 = b0; generalize b 1 = b1; generalize b 2 = b2; generalize b 3 = b3; generalize b 4 = b4; generalize b 5 = b5; revert b0 b1 b2 b3 b4 b5; decide +kernel)
theorem eb_or {b b' : Nat → Bool} {c : Nat} (hc : c < 6) (h1 : b' c = true) (h2 : ∀ k, k ≠ c → b' k = b k) : (nI (en_b b)) ||| ((1 : Int32) <<< (nI c &&& 31)) = nI (en_b b') := by
  unfold en_b
  rcases (show c = 0 ∨ c = 1 ∨ c = 2 ∨ c = 3 ∨ c = 4 ∨ c = 5 by omega) with rfl | rfl | rfl | rfl | rfl | rfl
  · rw [h1, h2 1 (by decide), h2 2 (by decide), h2 3 (by decide), h2 4 (by decide), h2 5 (by decide)]
    generalize b 0 = b0; generalize b 1 = b1; generalize b 2 = b2; generalize b 3 = b3; generalize b 4 = b4; generalize b 5 = b5; revert b0 b1 b2 b3 b4 b5; decide +kernel
  · rw [h1, h2 0 (by decide), h2 2 (by decide), h2 3 (by decide), h2 4 (by decide), h2 5 (by decide)]
    generalize b 0 = b0; generalize b 1 = b1; generalize b 2 = b2; generalize b 3 = b3; generalize b 4 = b4; generalize b 5 = b5; revert b0 b1 b2 b3 b4 b5; decide +kernel
  · rw [h1, h2 0 (by decide), h2 1 (by decide), h2 3 (by decide), h2 4 (by decide), h2 5 (by decide)]
    generalize b 0 = b0; generalize b 1 = b1; generalize b 2 = b2; generalize b 3 = b3; generalize b 4 = b4; generalize b 5 = b5; revert b0 b1 b2 b3 b4 b5; decide +kernel
  · rw [h1, h2 0 (by decide), h2 1 (by decide), h2 2 (by decide), h2 4 (by decide), h2 5 (by decide)]
    generalize b 0 = b0; generalize b 1 = b1; generalize b 2 = b2; generalize b 3 = b3; generalize b 4 = b4; generalize b 5 = b5; revert b0 b1 b2 b3 b4 b5; decide +kernel
  · rw [h1, h2 0 (by decide), h2 1 (by decide), h2 2 (by decide), h2 3 (by decide), h2 5 (by decide)]
    generalize b 0 = b0; generalize b 1 = b1; generalize b 2 = b2; generalize b 3 = b3; generalize b 4 = b4; generalize b 5 = b5; revert b0 b1 b2 b3 b4 b5; decide +kernel
  · rw [h1, h2 0 (by decide), h2 1 (by decide), h2 2 (by decide), h2 3 (by decide), h2 4 (by decide)]
    generalize b 0 = b0; generalize b 1 = b1; generalize b 2 = b2; generalize b 3 = b3; generalize b 4 = b4; generalize b 5 = b5; revert b0 b1 b2 b3 b4 b5; decide +kernel
theorem eb_0 {b : Nat → Bool} : nI (en_b b) = 0 ↔ ∀ c, c < 6 → b c = false := by
  have key : nI (en_b b) = 0 ↔ (b 0 = false ∧ b 1 = false ∧ b 2 = false ∧ b 3 = false ∧ b 4 = false ∧ b 5 = false) := by
    unfold en_b
    generalize b 0 = b0; generalize b 1 = b1; generalize b 2 = b2; generalize b 3 = b3; generalize b 4 = b4; generalize b 5 = b5; revert b0 b1 b2 b3 b4 b5; decide +kernel
  rw [key]
  constructor
  · rintro ⟨h0, h1, h2, h3, h4, h5⟩ c hc
    rcases (show c = 0 ∨ c = 1 ∨ c = 2 ∨ c = 3 ∨ c = 4 ∨ c = 5 by omega) with rfl | rfl | rfl | rfl | rfl | rfl <;> assumption
  · intro h; exact ⟨h 0 (by decide), h 1 (by decide), h 2 (by decide), h 3 (by decide), h 4 (by decide), h 5 (by decide)⟩
def wk_f (mb : Nat → Nat → Bool) (x : Nat) : Bool := mb (x / 6) (x % 6) && decide (x % 6 < 5)
def cl_wk (M : am_M) (mb : Nat → Nat → Bool) (w : Nat → Nat) (z : Nat) : Prop :=
  (∀ o, o < 16 → M 90 o = nI (en_b (mb o))) ∧ M 89 3 = nI z ∧ (∀ i, i < z → M 91 i = nI (w i)) ∧
  (∀ i, i < z → w i < 96 ∧ w i % 6 < 5 ∧ mb (w i / 6) (w i % 6) = true) ∧
  (∀ o c, o < 16 → c < 5 → mb o c = true → ∃ i, i < z ∧ w i = 6 * o + c) ∧ z = ab_n (wk_f mb) 96
def ab_mt (v : Option Nat) (c : Nat) (mb : Nat → Nat → Bool) : Nat → Nat → Bool := match v with
  | none => mb
  | some t => gh_u mb t c true
theorem ab_n_out {d d' : Nat → Bool} : ∀ n, (∀ x, x < n → d' x = d x) → ab_n d' n = ab_n d n
  | 0, _ => rfl
  | n + 1, h => by rw [ab_n, ab_n, h n (by omega), ab_n_out n (fun x hx => h x (by omega))]
theorem ab_n_set {d d' : Nat → Bool} {x0 : Nat} (h0 : d x0 = false) (h1 : d' x0 = true) (hn : ∀ x, x ≠ x0 → d' x = d x) : ∀ n, x0 < n → ab_n d' n = ab_n d n + 1
  | 0, h => by omega
  | n + 1, h => by
    rw [ab_n, ab_n]
    by_cases e : x0 = n
    · subst e; rw [ab_n_out x0 (fun x hx => hn x (by omega)), h0, h1]; simp
    · rw [ab_n_set h0 h1 hn n (by omega), hn n (fun h => e h.symm)]; omega
theorem gh_u_id {α : Type} {f : Nat → Nat → α} {h k : Nat} {v : α} (e : f h k = v) : gh_u f h k v = f := by
  funext x y
  by_cases e' : x = h ∧ y = k
  · obtain ⟨rfl, rfl⟩ := e'; rw [gh_u_s, e]
  · rw [gh_u_n _ _ e']
section
variable {M : am_M} {pl : Nat → Nat → Option Nat} {mb : Nat → Nat → Bool} {w : Nat → Nat} {z : Nat}
theorem ab_mt_1 {v : Option Nat} {c o k : Nat} (h : mb o k = true) : ab_mt v c mb o k = true := by
  unfold ab_mt
  cases v with
  | none => exact h
  | some t =>
    by_cases e : o = t ∧ k = c
    · obtain ⟨rfl, rfl⟩ := e; exact gh_u_s _ _ _ _
    · exact (gh_u_n _ _ e).trans h
theorem ab_mt_2 {t c : Nat} : ab_mt (some t) c mb t c = true := gh_u_s _ _ _ _
theorem ab_mt_3 {v : Option Nat} {c : Nat} {S : Nat → Nat → Prop} (h : ∀ o k, mb o k = true → S o k) (hv : ∀ t, v = some t → S t c) : ∀ o k, ab_mt v c mb o k = true → S o k := by
  intro o k
  unfold ab_mt
  cases v with
  | none => exact h o k
  | some t =>
    show gh_u mb t c true o k = true → S o k
    by_cases e : o = t ∧ k = c
    · obtain ⟨rfl, rfl⟩ := e; exact fun _ => hv _ rfl
    · rw [gh_u_n _ _ e]; exact h o k
/-- meet -/
theorem cs_77 {v : Option Nat} {c : Nat} (hv : ∀ t, v = some t → t < 16) (hc : c < 6) (H : cl_wk M mb w z) : ∃ (M' : am_M) (w' : Nat → Nat) (z' : Nat), fd_77 (en_o v) (nI c) M = some M' ∧ cl_wk M' (ab_mt v c mb) w' z' ∧ fr_ [89, 90, 91] M M' ∧ z ≤ z' ∧ ∀ i, i < z → w' i = w i := by
  cases v with
  | none => exact ⟨M, w, z, by unfold fd_77 en_o; rw [if_pos rfl], H, fr_refl _ _, Nat.le_refl _, fun _ _ => rfl⟩
  | some t =>
    have ht := hv t rfl
    have e5 : nI c = 5 ↔ c = 5 := en_nI (by omega) (by decide)
    have tn : nI t = -1 ↔ False := ⟨fun e => en_nI_m1 (by omega) e, fun h => h.elim⟩
    obtain ⟨h1, h2, h3, h4, h5, h6⟩ := H
    unfold fd_77 en_o
    simp (disch := omega) only [pu_cl, pu_g2, tn, if_false]
    rw [h1 t ht]
    by_cases hb : mb t c = true
    · rw [if_neg (fun e => by rw [(eb_and hc).mp e] at hb; cases hb)]
      refine ⟨M, w, z, rfl, ?_, fr_refl _ _, Nat.le_refl _, fun _ _ => rfl⟩
      show cl_wk M (gh_u mb t c true) w z
      rw [gh_u_id hb]; exact ⟨h1, h2, h3, h4, h5, h6⟩
    · have hb0 : mb t c = false := by simpa using hb
      rw [if_pos ((eb_and hc).mpr hb0), eb_or (b' := gh_u mb t c true t) hc (gh_u_s _ _ _ _) (fun k hk => gh_u_n _ _ (fun h => hk h.2))]
      have rows : ∀ M1 : am_M, (M1 90 = ds_w M 90 t (nI (en_b (gh_u mb t c true t))) 90) → ∀ o, o < 16 → M1 90 o = nI (en_b (gh_u mb t c true o)) := by
        intro M1 hM o ho
        rw [hM]
        by_cases e : o = t
        · subst e; rw [dw_s]
        · rw [dw_n _ _ e, h1 o ho]
          congr 2; funext k; exact (gh_u_n _ _ (fun h => e h.1)).symm
      by_cases c5 : c = 5
      · rw [if_pos (e5.mpr c5)]
        have ne : ∀ o k, k < 5 → gh_u mb t c true o k = mb o k := fun o k hk => gh_u_n _ _ (fun h => by omega)
        refine ⟨_, w, z, rfl, ⟨rows _ rfl, ?_, fun i hi => ?_, fun i hi => ?_, fun o k ho hk hm => ?_, ?_⟩, fr_w (fr_refl _ _) (by decide), Nat.le_refl _, fun _ _ => rfl⟩
        · rw [dw_r _ _ _ (by decide)]; exact h2
        · rw [dw_r _ _ _ (by decide)]; exact h3 i hi
        · obtain ⟨g1, g2, g3⟩ := h4 i hi
          exact ⟨g1, g2, by show gh_u mb t c true _ _ = true; rw [ne _ _ g2]; exact g3⟩
        · have hm : gh_u mb t c true o k = true := hm
          rw [ne o k hk] at hm; exact h5 o k ho hk hm
        · rw [h6]; refine (ab_n_out 96 (fun x _ => ?_)).symm
          unfold wk_f
          by_cases e : x % 6 < 5
          · rw [show ab_mt (some t) c mb (x / 6) (x % 6) = mb (x / 6) (x % 6) from ne _ _ e]
          · simp [e]
      · rw [if_neg (fun e => c5 (e5.mp e))]
        have x0 : 6 * t + c < 96 := by omega
        have d6 : (6 * t + c) / 6 = t := by omega
        have m6 : (6 * t + c) % 6 = c := by omega
        have hn : ab_n (wk_f (gh_u mb t c true)) 96 = ab_n (wk_f mb) 96 + 1 := by
          refine ab_n_set (x0 := 6 * t + c) ?_ ?_ (fun x hx => ?_) 96 x0
          · unfold wk_f; rw [d6, m6, hb0]; rfl
          · unfold wk_f; rw [d6, m6, gh_u_s, decide_eq_true (show c < 5 by omega)]; rfl
          · unfold wk_f
            rw [gh_u_n _ _ (by rintro ⟨g1, g2⟩; omega)]
        have z96 : z < 96 := by have := ab_n_le (wk_f (gh_u mb t c true)) 96; omega
        rw [h2]
        simp (disch := omega) only [pu_6', pu_cl, pu_g2]
        obtain ⟨w', w1, w2⟩ : ∃ w' : Nat → Nat, w' z = 6 * t + c ∧ ∀ i, i ≠ z → w' i = w i := ⟨fun i => if i = z then 6 * t + c else w i, if_pos rfl, fun i h => if_neg h⟩
        refine ⟨_, w', z + 1, rfl, ⟨rows _ ?_, ?_, fun i hi => ?_, fun i hi => ?_, fun o k ho hk hm => ?_, ?_⟩, fr_w (fr_w (fr_w (fr_refl _ _) (by decide)) (by decide)) (by decide), by omega, fun i hi => w2 i (by omega)⟩
        · rw [dw_r _ _ _ (by decide), dw_r _ _ _ (by decide)]
        · rw [dw_s, nI_1]
        · rw [dw_r _ _ _ (by decide)]
          by_cases e : i = z
          · rw [e, dw_s, w1, show t * 6 + c = 6 * t + c by omega]
          · rw [dw_n _ _ e, w2 i e, dw_r _ _ _ (by decide)]; exact h3 i (by omega)
        · by_cases e : i = z
          · rw [e, w1, d6, m6]; exact ⟨x0, by omega, gh_u_s _ _ _ _⟩
          · rw [w2 i e]
            obtain ⟨g1, g2, g3⟩ := h4 i (by omega)
            exact ⟨g1, g2, ab_mt_1 (v := some t) g3⟩
        · by_cases e : o = t ∧ k = c
          · obtain ⟨rfl, rfl⟩ := e; exact ⟨z, by omega, w1⟩
          · have hm : gh_u mb t c true o k = true := hm
            rw [gh_u_n _ _ e] at hm
            obtain ⟨i, hi, hw⟩ := h5 o k ho hk hm
            exact ⟨i, by omega, by rw [w2 i (by omega)]; exact hw⟩
        · show z + 1 = ab_n (wk_f (gh_u mb t c true)) 96
          omega
/-- start -/
theorem cs_76 (M : am_M) : ∃ M', fd_76 M = some M' ∧ cl_wk M' (fun _ _ => false) (fun _ => 0) 0 ∧ fr_ [89, 90, 91] M M' := by
  refine ⟨_, rfl, ⟨fun o ho => ?_, dw_s _ _ _ _, fun i hi => by omega, fun i hi => by omega, fun o c _ _ h => (by cases h), ?_⟩, ?_⟩
  · rw [dw_r _ _ _ (by decide), am_set_s]
    show (if o < 16 then (0 : Int32) else _) = _
    rw [if_pos ho]; rfl
  · have : ∀ n, ab_n (wk_f (fun _ _ => false)) n = 0 := by
      intro n
      induction n with
      | zero => rfl
      | succ n ih => rw [ab_n, ih]; rfl
    exact (this 96).symm
  · refine fr_w (fun h hn => ?_) (by decide)
    exact am_set_n _ _ (fun e => hn (by rw [e]; decide))
/-- the fields of one object -/
theorem cs_78_31 (hw : ∀ h k t, h < 20 → pl h k = some t → t < 16) (k2 : Int32 → am_M → Option am_M) (x1 : Int32) {p : Nat} (hp : p < 16) : ∀ (k j f : Nat) (M : am_M) (mb : Nat → Nat → Bool) (w : Nat → Nat) (z : Nat), j + k = 6 → k < f → cl_wk M mb w z → (∀ k, k < 6 → M 82 (p * 6 + k) = en_o (pl p k)) → ∃ (M' : am_M) (mb' : Nat → Nat → Bool) (w' : Nat → Nat) (z' : Nat), fd_78_31 k2 f x1 (nI p) (nI j) M = k2 (x1 + 1) M' ∧ cl_wk M' mb' w' z' ∧ fr_ [89, 90, 91] M M' ∧ (∀ o c, mb o c = true → mb' o c = true) ∧ (∀ k u, j ≤ k → k < 6 → pl p k = some u → mb' u k = true) ∧ z ≤ z' ∧ (∀ i, i < z → w' i = w i) ∧ ∀ S : Nat → Nat → Prop, (∀ o c, mb o c = true → S o c) → (∀ k u, j ≤ k → k < 6 → pl p k = some u → S u k) → ∀ o c, mb' o c = true → S o c
  | _, _, 0, _, _, _, _, _, hf, _, _ => by omega
  | 0, j, f + 1, M, mb, w, z, hj, _, H, _ => by
    refine ⟨M, mb, w, z, ?_, H, fr_refl _ _, fun _ _ h => h, fun k u h1 h2 => by omega, Nat.le_refl _, fun _ _ => rfl, fun S h _ => h⟩
    rw [un_78_31]
    simp (disch := omega) only [pu_y6]
  | k + 1, j, f + 1, M, mb, w, z, hj, hf, H, hF => by
    rw [un_78_31]
    simp (disch := omega) only [pu_x6]
    rw [sp_79 (show p < 20 by omega) (show j < 6 by omega), Option.bind_some]
    simp only [hF j (by omega)]
    obtain ⟨M1, w1, z1, e1, e2, e3, e4, e5⟩ := cs_77 (v := pl p j) (c := j) (fun t ht => hw p j t (by omega) ht) (by omega) H
    rw [e1]
    simp only [Option.bind_some]
    rw [nI_1]
    obtain ⟨M2, mb2, w2, z2, f1, f2, f3, f4, f5, f6, f7, f8⟩ := cs_78_31 hw k2 x1 hp k (j + 1) f M1 _ w1 z1 (by omega) (by omega) e2 (fun k hk => by rw [e3 82 (by decide)]; exact hF k hk)
    refine ⟨M2, mb2, w2, z2, f1, f2, fr_tr e3 f3, fun o c h => f4 o c (ab_mt_1 h), fun k' u h1 h2 hu => ?_, by omega, fun i hi => by rw [f7 i (by omega), e5 i hi], fun S g1 g2 => f8 S (ab_mt_3 g1 (fun t ht => g2 j t (Nat.le_refl _) (by omega) ht)) (fun k' u h1 h2 => g2 k' u (by omega) h2)⟩
    by_cases e : k' = j
    · subst e; refine f4 u k' ?_; rw [hu]; exact ab_mt_2
    · exact f5 k' u (by omega) h2 hu
/-- followClosure -/
theorem cs_78_2 (hw : ∀ h k t, h < 20 → pl h k = some t → t < 16) (S : Nat → Nat → Prop) (hS : ∀ p c k u, p < 16 → c < 5 → k < 6 → S p c → pl p k = some u → S u k) : ∀ (r i f : Nat) (M : am_M) (mb : Nat → Nat → Bool) (w : Nat → Nat) (z : Nat), i + r = 96 → r < f → cl_wk M mb w z → (∀ p c k, p < 16 → c < 5 → S p c → k < 6 → M 82 (p * 6 + k) = en_o (pl p k)) → (∀ o c, mb o c = true → S o c) → (∀ j, j < i → j < z → ∀ k u, k < 6 → pl (w j / 6) k = some u → mb u k = true) → ∃ (M' : am_M) (mb' : Nat → Nat → Bool) (w' : Nat → Nat) (z' : Nat), fd_78_2 f (nI i) M = some M' ∧ cl_wk M' mb' w' z' ∧ fr_ [89, 90, 91] M M' ∧ (∀ o c, mb o c = true → mb' o c = true) ∧ (∀ o c, mb' o c = true → S o c) ∧ ∀ p c k u, p < 16 → c < 5 → k < 6 → mb' p c = true → pl p k = some u → mb' u k = true
  | _, _, 0, _, _, _, _, _, hf, _, _, _, _ => by omega
  | r, i, f + 1, M, mb, w, z, hi, hf, H, hF, hs, hp => by
    have z96 : z ≤ 96 := by rw [H.2.2.2.2.2]; exact ab_n_le _ _
    rw [un_78_2, H.2.1]
    by_cases hz : z ≤ i
    · rw [pu_end hz (by omega)]
      refine ⟨M, mb, w, z, rfl, H, fr_refl _ _, fun _ _ h => h, hs, fun p c k u hp16 hc hk hm hu => ?_⟩
      obtain ⟨j, hj, e⟩ := H.2.2.2.2.1 p c hp16 hc hm
      exact hp j (by omega) hj k u hk (by rw [e, show (6 * p + c) / 6 = p by omega]; exact hu)
    · rw [pu_go (by omega) (by omega)]
      obtain ⟨r', rfl⟩ : ∃ r', r = r' + 1 := ⟨r - 1, by omega⟩
      simp (disch := omega) only [pu_x96, pu_cl, pu_g2]
      obtain ⟨w96, w5, wm⟩ := H.2.2.2.1 i (by omega)
      rw [H.2.2.1 i (by omega)]
      simp (disch := omega) only [pu_d6]
      have hSi := hs _ _ wm
      obtain ⟨M1, mb1, w1, z1, e1, e2, e3, e4, e5, e6, e7, e8⟩ := cs_78_31 hw (fd_78_2 f) (nI i) (p := w i / 6) (by omega) 6 0 1000 M mb w z rfl (by decide) H (fun k hk => hF _ _ k (by omega) w5 hSi hk)
      rw [show (0 : Int32) = nI 0 from rfl, e1, nI_1]
      obtain ⟨M2, mb2, w2, z2, f1, f2, f3, f4, f5, f6⟩ := cs_78_2 hw S hS r' (i + 1) f M1 mb1 w1 z1 (by omega) (by omega) e2 (fun p c k h1 h2 h3 h4 => by rw [e3 82 (by decide)]; exact hF p c k h1 h2 h3 h4) (e8 S hs (fun k u _ hk hu => hS _ _ k u (by omega) w5 hk hSi hu)) (fun j hj hjz k u hk hu => by
        by_cases e : j = i
        · subst e
          rw [e7 j (by omega)] at hu
          exact e5 k u (by omega) hk hu
        · rw [e7 j (by omega)] at hu
          exact e4 _ _ (hp j (by omega) (by omega) k u hk hu))
      exact ⟨M2, mb2, w2, z2, f1, f2, fr_tr e3 f3, fun o c h => f4 o c (e4 o c h), f5, f6⟩
end
